/-! solve of the class, step of the reference -/
theorem oR_mk {r p a b : Nat → Int32} {st : Nat} {i : Int32} {tx : Nat → Int32} {ln tt : Nat} {n : Nat → Int32} : oR (mkM r p a b st i tx ln tt n) = r := rfl
theorem RaysOk.cg {x x' : MoC} {mm kk : Nat} (h : RaysOk x mm kk) (e : ∀ j, oR x' j = oR x j) : RaysOk x' mm kk := by
  intro k hk hr
  rw [e] at hr ⊢
  exact h k hk hr
theorem hbest_cg {x x' : MoC} {nn mm kk : Nat} (hn : nn ≤ 7) (hm : mm ≤ 8) (e : ∀ j, oR x' j = oR x j) (h : ¬ oR x 4 < 0 → ∀ cn, cn < mm → ¬ f_X6_server x nn mm kk (oR x 4) cn < 0) : ¬ oR x' 4 < 0 → ∀ cn, cn < mm → ¬ f_X6_server x' nn mm kk (oR x' 4) cn < 0 := by
  intro hb
  rw [e 4] at hb ⊢
  exact srv_hre (fun j _ _ => e j) hn hm (h hb)

def rmX5_solve : Room := { frames := 7, cells := 0, slots := 0, locals := 160 }
def l_X5_solve_31 (w : ZoC) (z : SoC) (x : PlC) (y : CuC) (ho : HoC) (sg : Nat → Nat) (hs : Nat → StC) (z1 : SoC) (x1 : PlC) (y1 : CuC) (nu : Nat → Int32) : Nat → Nat → Int32 → Int32 → Int32 → Nat → (Nat → Int32) → (Nat → Int32) → (Nat → Nat → Int32) → (Nat → Int32) → Int32 × SoC × PlC × CuC × HoC × (Nat → Nat) × (Nat → StC) × SoC × PlC × CuC × (Nat → Int32)
  | 0, ix_4, a1_4, u1_0_4, u1_1_4, u3_0_4, u3_1_4, u3_2_4, u3_3_4, u10_0_4 => (if a1_4 = (-3) then ((-3), ((f_X4_copyFrom (mkO u1_0_4 u1_1_4) x (mkC u3_0_4 u3_1_4 u3_2_4 u3_3_4) ((f_X4_copyFrom z1 x1 y1 z x y).1) ((f_X4_copyFrom z1 x1 y1 z x y).2.1) ((f_X4_copyFrom z1 x1 y1 z x y).2.2)).1), ((f_X4_copyFrom (mkO u1_0_4 u1_1_4) x (mkC u3_0_4 u3_1_4 u3_2_4 u3_3_4) ((f_X4_copyFrom z1 x1 y1 z x y).1) ((f_X4_copyFrom z1 x1 y1 z x y).2.1) ((f_X4_copyFrom z1 x1 y1 z x y).2.2)).2.1), ((f_X4_copyFrom (mkO u1_0_4 u1_1_4) x (mkC u3_0_4 u3_1_4 u3_2_4 u3_3_4) ((f_X4_copyFrom z1 x1 y1 z x y).1) ((f_X4_copyFrom z1 x1 y1 z x y).2.1) ((f_X4_copyFrom z1 x1 y1 z x y).2.2)).2.2), ho, sg, hs, ((f_X4_copyFrom z1 x1 y1 z x y).1), ((f_X4_copyFrom z1 x1 y1 z x y).2.1), ((f_X4_copyFrom z1 x1 y1 z x y).2.2), u10_0_4) else ((nI u3_0_4) - (nI (kA ((f_X4_copyFrom z1 x1 y1 z x y).2.2))), mkO u1_0_4 u1_1_4, x, mkC u3_0_4 u3_1_4 u3_2_4 u3_3_4, ((f_X2_record ho sg hs ((f_X4_copyFrom z1 x1 y1 z x y).1) ((f_X4_copyFrom z1 x1 y1 z x y).2.1) ((f_X4_copyFrom z1 x1 y1 z x y).2.2)).1), ((f_X2_record ho sg hs ((f_X4_copyFrom z1 x1 y1 z x y).1) ((f_X4_copyFrom z1 x1 y1 z x y).2.1) ((f_X4_copyFrom z1 x1 y1 z x y).2.2)).2.1), ((f_X2_record ho sg hs ((f_X4_copyFrom z1 x1 y1 z x y).1) ((f_X4_copyFrom z1 x1 y1 z x y).2.1) ((f_X4_copyFrom z1 x1 y1 z x y).2.2)).2.2), ((f_X4_copyFrom z1 x1 y1 z x y).1), ((f_X4_copyFrom z1 x1 y1 z x y).2.1), ((f_X4_copyFrom z1 x1 y1 z x y).2.2), u10_0_4))
  | dx_4 + 1, ix_4, a1_4, u1_0_4, u1_1_4, u3_0_4, u3_1_4, u3_2_4, u3_3_4, u10_0_4 => (if (f_X5_isCutAdded a1_4) = true then l_X5_solve_31 w z x y ho sg hs z1 x1 y1 nu dx_4 (ix_4 + 1) ((f_X4_makeStep (mkO u1_0_4 u1_1_4) x (mkC u3_0_4 u3_1_4 u3_2_4 u3_3_4) u10_0_4).1) (uB ((f_X4_makeStep (mkO u1_0_4 u1_1_4) x (mkC u3_0_4 u3_1_4 u3_2_4 u3_3_4) u10_0_4).2.1)) (uT ((f_X4_makeStep (mkO u1_0_4 u1_1_4) x (mkC u3_0_4 u3_1_4 u3_2_4 u3_3_4) u10_0_4).2.1)) (kA ((f_X4_makeStep (mkO u1_0_4 u1_1_4) x (mkC u3_0_4 u3_1_4 u3_2_4 u3_3_4) u10_0_4).2.2.1)) (kC ((f_X4_makeStep (mkO u1_0_4 u1_1_4) x (mkC u3_0_4 u3_1_4 u3_2_4 u3_3_4) u10_0_4).2.2.1)) (kS ((f_X4_makeStep (mkO u1_0_4 u1_1_4) x (mkC u3_0_4 u3_1_4 u3_2_4 u3_3_4) u10_0_4).2.2.1)) (kW ((f_X4_makeStep (mkO u1_0_4 u1_1_4) x (mkC u3_0_4 u3_1_4 u3_2_4 u3_3_4) u10_0_4).2.2.1)) ((f_X4_makeStep (mkO u1_0_4 u1_1_4) x (mkC u3_0_4 u3_1_4 u3_2_4 u3_3_4) u10_0_4).2.2.2) else (if a1_4 = (-3) then ((-3), ((f_X4_copyFrom (mkO u1_0_4 u1_1_4) x (mkC u3_0_4 u3_1_4 u3_2_4 u3_3_4) ((f_X4_copyFrom z1 x1 y1 z x y).1) ((f_X4_copyFrom z1 x1 y1 z x y).2.1) ((f_X4_copyFrom z1 x1 y1 z x y).2.2)).1), ((f_X4_copyFrom (mkO u1_0_4 u1_1_4) x (mkC u3_0_4 u3_1_4 u3_2_4 u3_3_4) ((f_X4_copyFrom z1 x1 y1 z x y).1) ((f_X4_copyFrom z1 x1 y1 z x y).2.1) ((f_X4_copyFrom z1 x1 y1 z x y).2.2)).2.1), ((f_X4_copyFrom (mkO u1_0_4 u1_1_4) x (mkC u3_0_4 u3_1_4 u3_2_4 u3_3_4) ((f_X4_copyFrom z1 x1 y1 z x y).1) ((f_X4_copyFrom z1 x1 y1 z x y).2.1) ((f_X4_copyFrom z1 x1 y1 z x y).2.2)).2.2), ho, sg, hs, ((f_X4_copyFrom z1 x1 y1 z x y).1), ((f_X4_copyFrom z1 x1 y1 z x y).2.1), ((f_X4_copyFrom z1 x1 y1 z x y).2.2), u10_0_4) else ((nI u3_0_4) - (nI (kA ((f_X4_copyFrom z1 x1 y1 z x y).2.2))), mkO u1_0_4 u1_1_4, x, mkC u3_0_4 u3_1_4 u3_2_4 u3_3_4, ((f_X2_record ho sg hs ((f_X4_copyFrom z1 x1 y1 z x y).1) ((f_X4_copyFrom z1 x1 y1 z x y).2.1) ((f_X4_copyFrom z1 x1 y1 z x y).2.2)).1), ((f_X2_record ho sg hs ((f_X4_copyFrom z1 x1 y1 z x y).1) ((f_X4_copyFrom z1 x1 y1 z x y).2.1) ((f_X4_copyFrom z1 x1 y1 z x y).2.2)).2.1), ((f_X2_record ho sg hs ((f_X4_copyFrom z1 x1 y1 z x y).1) ((f_X4_copyFrom z1 x1 y1 z x y).2.1) ((f_X4_copyFrom z1 x1 y1 z x y).2.2)).2.2), ((f_X4_copyFrom z1 x1 y1 z x y).1), ((f_X4_copyFrom z1 x1 y1 z x y).2.1), ((f_X4_copyFrom z1 x1 y1 z x y).2.2), u10_0_4)))
def f_X5_solve (w : ZoC) (z : SoC) (x : PlC) (y : CuC) (ho : HoC) (sg : Nat → Nat) (hs : Nat → StC) (z1 : SoC) (x1 : PlC) (y1 : CuC) (nu : Nat → Int32) : Int32 × SoC × PlC × CuC × HoC × (Nat → Nat) × (Nat → StC) × SoC × PlC × CuC × (Nat → Int32) :=
  (if ((f_X4_makeStep z x y nu).1) < 0 then ((f_X4_makeStep z x y nu).1, ((f_X4_makeStep z x y nu).2.1), x, ((f_X4_makeStep z x y nu).2.2.1), ho, sg, hs, ((f_X4_copyFrom z1 x1 y1 z x y).1), ((f_X4_copyFrom z1 x1 y1 z x y).2.1), ((f_X4_copyFrom z1 x1 y1 z x y).2.2), ((f_X4_makeStep z x y nu).2.2.2)) else l_X5_solve_31 w z x y ho sg hs z1 x1 y1 nu 41 0 ((f_X4_makeStep z x y nu).1) (uB ((f_X4_makeStep z x y nu).2.1)) (uT ((f_X4_makeStep z x y nu).2.1)) (kA ((f_X4_makeStep z x y nu).2.2.1)) (kC ((f_X4_makeStep z x y nu).2.2.1)) (kS ((f_X4_makeStep z x y nu).2.2.1)) (kW ((f_X4_makeStep z x y nu).2.2.1)) ((f_X4_makeStep z x y nu).2.2.2))
set_option maxHeartbeats 4000000 in
set_option maxRecDepth 100000 in
theorem c_X5_solve {l : Launch} {dd : va_G} {t : CL4} {N : Nat} {ad : Nat → Nat} {V : Nat → va_E} {b : Nat} {w : ZoC} {z : SoC} {x : PlC} {y : CuC} {ho : HoC} {sg : Nat → Nat} {hs : Nat → StC} {z1 : SoC} {x1 : PlC} {y1 : CuC} {nu : Nat → Int32}  (hi : inj N ad) (hp0 : ZoP N ad V t b w) (hp1 : SoP N ad V t (b + 1) z) (hp2 : PlP N ad V t (b + 2) x) (hp3 : CuP N ad V t (b + 14) y) (hp4 : HoP N ad V t (b + 172) ho) (hp5 : HaP N ad V t (b + 173) sg) (hp6 : HsP N ad V t (b + 174) hs) (hp7 : SoP N ad V t (b + 58) z1) (hp8 : PlP N ad V t (b + 59) x1) (hp9 : CuP N ad V t (b + 71) y1) (hp10 : NuP N V t (b + 404) nu)  (hsg : ∀ j, j < 4 → sg j < 4) : MM l dd t N ad V yX5_solve cX5_solve 3 (some .int) rmX5_solve [.ref (ad b)] (fun r V1 => (r = (f_X5_solve w z x y ho sg hs z1 x1 y1 nu).1) ∧ (SoP N ad V1 t (b + 1) ((f_X5_solve w z x y ho sg hs z1 x1 y1 nu).2.1)) ∧ (PlP N ad V1 t (b + 2) ((f_X5_solve w z x y ho sg hs z1 x1 y1 nu).2.2.1)) ∧ (CuP N ad V1 t (b + 14) ((f_X5_solve w z x y ho sg hs z1 x1 y1 nu).2.2.2.1)) ∧ (HoP N ad V1 t (b + 172) ((f_X5_solve w z x y ho sg hs z1 x1 y1 nu).2.2.2.2.1)) ∧ (HaP N ad V1 t (b + 173) ((f_X5_solve w z x y ho sg hs z1 x1 y1 nu).2.2.2.2.2.1)) ∧ (HsP N ad V1 t (b + 174) ((f_X5_solve w z x y ho sg hs z1 x1 y1 nu).2.2.2.2.2.2.1)) ∧ (SoP N ad V1 t (b + 58) ((f_X5_solve w z x y ho sg hs z1 x1 y1 nu).2.2.2.2.2.2.2.1)) ∧ (PlP N ad V1 t (b + 59) ((f_X5_solve w z x y ho sg hs z1 x1 y1 nu).2.2.2.2.2.2.2.2.1)) ∧ (CuP N ad V1 t (b + 71) ((f_X5_solve w z x y ho sg hs z1 x1 y1 nu).2.2.2.2.2.2.2.2.2.1)) ∧ (NuP N V1 t (b + 404) ((f_X5_solve w z x y ho sg hs z1 x1 y1 nu).2.2.2.2.2.2.2.2.2.2)) ∧ (∀ k, (k < b + 1 ∨ (b + 115 ≤ k ∧ k < b + 172) ∨ (b + 402 ≤ k ∧ k < b + 404) ∨ b + 405 ≤ k) → V1 k = V k)) := by
  refine MM.of (by decide +kernel) ⟨rfl, rfl⟩ (Nat.le_of_ble_eq_true rfl) rfl ?_
  intro p e s m as below meth c Q X H hP hS ls hl kr
  have X : WX p s m as c cX5_solve 3 RX5 dd t := X
  have hx := X.1.1
  have hb := X.1.2.1
  have hl : lv_has ls 3 [(0, .ref (ad b))] := hl
  have hi2_0 := hp2.i0
  have hi2_1 := hp2.i1
  have hi3_0 := hp3.i0
  have hi4_0 := hp4.i0
  have hi8_0 := hp8.i0
  have hi8_1 := hp8.i1
  have hi9_0 := hp9.i0
  have hle0 := hp0.le
  have hle1 := hp1.le
  have hle2 := hp2.le
  have hle3 := hp3.le
  have hle4 := hp4.le
  have hle5 := hp5.1
  have hle6 := hp6.1
  have hle7 := hp7.le
  have hle8 := hp8.le
  have hle9 := hp9.le
  have hle10 := hp10.1
  have hfr : ∀ k, (k < b + 1 ∨ (b + 115 ≤ k ∧ k < b + 172) ∨ (b + 402 ≤ k ∧ k < b + 404) ∨ b + 405 ≤ k) → V k = V k := fun _ _ => rfl
  refine lv_aload_n hx hb dX5_solve_0 rfl (lv_at hl 0 rfl) ?_
  refine g_Zo_before X hP hp0 m16 dX5_solve_1 ?_
  refine lv_aload_n hx hb dX5_solve_4 rfl (lv_at hl 0 rfl) ?_
  refine g_Zo_now X hP hp0 m15 dX5_solve_5 ?_
  refine r_callW (As := [.ref (ad (b + 1))]) (rest := []) (ci := 4) X hP hS (c_X4_copyFrom hi hp7 hp8 hp9 hp1 hp2 hp3 (by omega)) o_X4_copyFrom rfl hp7.lt hp7.ob m271 ⟨rfl, rfl⟩ ⟨Nat.le_of_ble_eq_true rfl, Nat.le_of_ble_eq_true rfl⟩ rfl hl.1 rfl (Nat.le_of_ble_eq_true rfl) ⟨Nat.zero_le _, Nat.zero_le _⟩ dX5_solve_8 (fun V1 H1 locs1 hq hP hS => ?_)
  obtain ⟨hp7, hp8, hp9, h2⟩ := hq
  have hi8_0 := hp8.i0
  have hi8_1 := hp8.i1
  have hi9_0 := hp9.i0
  have hp0 := hp0.keep (V1 := V1) (fun k h8 h9 => h2 k (by omega))
  have hp1 := hp1.keep (V1 := V1) (fun k h8 h9 => h2 k (by omega))
  have hp2 := hp2.keep (V1 := V1) (fun k h8 h9 => h2 k (by omega))
  have hp3 := hp3.keep (V1 := V1) (fun k h8 h9 => h2 k (by omega))
  have hp4 := hp4.keep (V1 := V1) (fun k h8 h9 => h2 k (by omega))
  have hp5 := hp5.keep (V1 := V1) (fun k h8 h9 => h2 k (by omega))
  have hp6 := hp6.keep (V1 := V1) (fun k h8 h9 => h2 k (by omega))
  have hp10 := hp10.keep (V1 := V1) (fun k h8 h9 => h2 k (by omega))
  have hfr : ∀ k, (k < b + 1 ∨ (b + 115 ≤ k ∧ k < b + 172) ∨ (b + 402 ≤ k ∧ k < b + 404) ∨ b + 405 ≤ k) → V1 k = V k := fun k hk => (h2 k (by omega)).trans (hfr k hk)
  refine lv_aload_n hx hb dX5_solve_11 rfl (lv_at hl 0 rfl) ?_
  refine g_Zo_now X hP hp0 m15 dX5_solve_12 ?_
  refine lv_aload_n hx hb dX5_solve_15 rfl (lv_at hl 0 rfl) ?_
  refine g_Zo_numbers X hP hp0 m28 dX5_solve_16 ?_
  refine r_callM (As := [.ref (ad (b + 404))]) (rest := []) (ci := 4) X hP hS (c_X4_makeStep hi hp1 hp2 hp3 hp10 (by omega)) o_X4_makeStep rfl hp1.lt hp1.ob m272 ⟨rfl, rfl⟩ ⟨Nat.le_of_ble_eq_true rfl, Nat.le_of_ble_eq_true rfl⟩ rfl hl.1 rfl (Nat.le_of_ble_eq_true rfl) ⟨Nat.zero_le _, Nat.zero_le _⟩ dX5_solve_19 (fun r V2 H2 locs2 hq hP hS => ?_)
  obtain ⟨hr, hp1, hp3, hp10, h2⟩ := hq
  subst hr
  have hi3_0 := hp3.i0
  have hp0 := hp0.keep (V1 := V2) (fun k h8 h9 => h2 k (by omega))
  have hp2 := hp2.keep (V1 := V2) (fun k h8 h9 => h2 k (by omega))
  have hp4 := hp4.keep (V1 := V2) (fun k h8 h9 => h2 k (by omega))
  have hp5 := hp5.keep (V1 := V2) (fun k h8 h9 => h2 k (by omega))
  have hp6 := hp6.keep (V1 := V2) (fun k h8 h9 => h2 k (by omega))
  have hp7 := hp7.keep (V1 := V2) (fun k h8 h9 => h2 k (by omega))
  have hp8 := hp8.keep (V1 := V2) (fun k h8 h9 => h2 k (by omega))
  have hp9 := hp9.keep (V1 := V2) (fun k h8 h9 => h2 k (by omega))
  have hfr : ∀ k, (k < b + 1 ∨ (b + 115 ≤ k ∧ k < b + 172) ∨ (b + 402 ≤ k ∧ k < b + 404) ∨ b + 405 ≤ k) → V2 k = V k := fun k hk => (h2 k (by omega)).trans (hfr k hk)
  refine lv_istore_n (lv' := [(1, .int ((f_X4_makeStep z x y nu).1)), (0, .ref (ad b))]) hx hb dX5_solve_22 rfl hl (by decide) rfl (fun ls hl => ?_)
  refine lv_iload_n hx hb dX5_solve_23 rfl (lv_at hl 0 rfl) ?_
  refine u_ge (tgt := 29) hx hb dX5_solve_24 (by decide) (fun c3 => ?_) (fun c3 => ?_)
  · refine lv_iconst (v := nI 0) hx hb dX5_solve_29 (by decide) ?_
    refine lv_istore_n (lv' := [(2, .int (nI 0)), (1, .int ((f_X4_makeStep z x y nu).1)), (0, .ref (ad b))]) hx hb dX5_solve_30 rfl hl (by decide) rfl (fun ls hl => ?_)
    have hF4 : f_X5_solve w z x y ho sg hs z1 x1 y1 nu = l_X5_solve_31 w z x y ho sg hs z1 x1 y1 nu 41 0 ((f_X4_makeStep z x y nu).1) (uB ((f_X4_makeStep z x y nu).2.1)) (uT ((f_X4_makeStep z x y nu).2.1)) (kA ((f_X4_makeStep z x y nu).2.2.1)) (kC ((f_X4_makeStep z x y nu).2.2.1)) (kS ((f_X4_makeStep z x y nu).2.2.1)) (kW ((f_X4_makeStep z x y nu).2.2.1)) ((f_X4_makeStep z x y nu).2.2.2) := (by rw [f_X5_solve, if_neg c3] <;> rfl)
    have L4 : ∀ (dx_4 ix_4 : Nat) (a1_4 : Int32) (u1_0_4 : Int32) (u1_1_4 : Int32) (u3_0_4 : Nat) (u3_1_4 : Nat → Int32) (u3_2_4 : Nat → Int32) (u3_3_4 : Nat → Nat → Int32) (u10_0_4 : Nat → Int32) (V4 : Nat → va_E) (H4 : Heap) (locs4 : List Loc) (ls : Array Slot), (ix_4 + dx_4 = 41) → (l_X5_solve_31 w z x y ho sg hs z1 x1 y1 nu dx_4 ix_4 a1_4 u1_0_4 u1_1_4 u3_0_4 u3_1_4 u3_2_4 u3_3_4 u10_0_4 = l_X5_solve_31 w z x y ho sg hs z1 x1 y1 nu 41 0 ((f_X4_makeStep z x y nu).1) (uB ((f_X4_makeStep z x y nu).2.1)) (uT ((f_X4_makeStep z x y nu).2.1)) (kA ((f_X4_makeStep z x y nu).2.2.1)) (kC ((f_X4_makeStep z x y nu).2.2.1)) (kS ((f_X4_makeStep z x y nu).2.2.1)) (kW ((f_X4_makeStep z x y nu).2.2.1)) ((f_X4_makeStep z x y nu).2.2.2)) → (ZoP N ad V4 t b w) → (SoP N ad V4 t (b + 1) (mkO u1_0_4 u1_1_4)) → (PlP N ad V4 t (b + 2) x) → (CuP N ad V4 t (b + 14) (mkC u3_0_4 u3_1_4 u3_2_4 u3_3_4)) → (HoP N ad V4 t (b + 172) ho) → (HaP N ad V4 t (b + 173) sg) → (HsP N ad V4 t (b + 174) hs) → (SoP N ad V4 t (b + 58) ((f_X4_copyFrom z1 x1 y1 z x y).1)) → (PlP N ad V4 t (b + 59) ((f_X4_copyFrom z1 x1 y1 z x y).2.1)) → (CuP N ad V4 t (b + 71) ((f_X4_copyFrom z1 x1 y1 z x y).2.2)) → (NuP N V4 t (b + 404) u10_0_4) → (∀ k, (k < b + 1 ∨ (b + 115 ≤ k ∧ k < b + 172) ∨ (b + 402 ≤ k ∧ k < b + 404) ∨ b + 405 ≤ k) → V4 k = V k) → (HP dd N ad V4 H4) → (va_S (dm N ad H.size) H H4 locs4) → (lv_has ls 3 [(0, .ref (ad b)), (1, .int (a1_4)), (2, .int (nI ix_4))]) → W p l e rmX5_solve s m as below meth c H4 locs4 0 0 Q (F0 m 31 ls []) := by
      intro dx_4
      induction dx_4 with
      | zero =>
        intro ix_4 a1_4 u1_0_4 u1_1_4 u3_0_4 u3_1_4 u3_2_4 u3_3_4 u10_0_4 V4 H4 locs4 ls hid hvx_4 hp0 hp1 hp2 hp3 hp4 hp5 hp6 hp7 hp8 hp9 hp10 hfr hP hS hl
        have hiN : 41 = ix_4 := by omega
        subst hiN
        refine lv_iload_n hx hb dX5_solve_31 rfl (lv_at hl 2 rfl) ?_
        refine lv_bipush (v := nI 40) hx hb dX5_solve_32 (by decide) ?_
        refine q_gt (tgt := 62) hx hb (by omega) (by omega) dX5_solve_34 (by decide) (fun c5 => ?_) (fun h => absurd h (by omega))
        refine lv_iload_n hx hb dX5_solve_62 rfl (lv_at hl 1 rfl) ?_
        refine lv_bipush (v := (-3)) hx hb dX5_solve_63 (by decide) ?_
        refine lv_icmp_ne (tgt := 82) hx hb dX5_solve_65 (by decide) (fun c6 => ?_) (fun c6 => ?_)
        · refine lv_aload_n hx hb dX5_solve_82 rfl (lv_at hl 0 rfl) ?_
          refine g_Zo_history X hP hp0 m22 dX5_solve_83 ?_
          refine lv_aload_n hx hb dX5_solve_86 rfl (lv_at hl 0 rfl) ?_
          refine g_Zo_before X hP hp0 m16 dX5_solve_87 ?_
          refine r_callW (As := [.ref (ad (b + 58))]) (rest := []) (ci := 2) X hP hS (c_X2_record hi hp4 hp5 hp6 hp7 hp8 hp9 hsg (by omega)) o_X2_record rfl hp4.lt hp4.ob m98 ⟨rfl, rfl⟩ ⟨Nat.le_of_ble_eq_true rfl, Nat.le_of_ble_eq_true rfl⟩ rfl hl.1 rfl (Nat.le_of_ble_eq_true rfl) ⟨Nat.zero_le _, Nat.zero_le _⟩ dX5_solve_90 (fun V7 H7 locs7 hq hP hS => ?_)
          obtain ⟨hp4, hp5, hp6, h2⟩ := hq
          have hi4_0 := hp4.i0
          have hp0 := hp0.keep (V1 := V7) (fun k h8 h9 => h2 k (by omega))
          have hp1 := hp1.keep (V1 := V7) (fun k h8 h9 => h2 k (by omega))
          have hp2 := hp2.keep (V1 := V7) (fun k h8 h9 => h2 k (by omega))
          have hp3 := hp3.keep (V1 := V7) (fun k h8 h9 => h2 k (by omega))
          have hp7 := hp7.keep (V1 := V7) (fun k h8 h9 => h2 k (by omega))
          have hp8 := hp8.keep (V1 := V7) (fun k h8 h9 => h2 k (by omega))
          have hp9 := hp9.keep (V1 := V7) (fun k h8 h9 => h2 k (by omega))
          have hp10 := hp10.keep (V1 := V7) (fun k h8 h9 => h2 k (by omega))
          have hfr : ∀ k, (k < b + 1 ∨ (b + 115 ≤ k ∧ k < b + 172) ∨ (b + 402 ≤ k ∧ k < b + 404) ∨ b + 405 ≤ k) → V7 k = V k := fun k hk => (h2 k (by omega)).trans (hfr k hk)
          refine lv_aload_n hx hb dX5_solve_93 rfl (lv_at hl 0 rfl) ?_
          refine g_Zo_now X hP hp0 m15 dX5_solve_94 ?_
          refine g_So_cuts X hP hp1 m446 dX5_solve_97 ?_
          refine g_Cu_amount X hP hp3 m447 dX5_solve_100 ?_
          refine W.eq (g2 := F0 m 103 ls [.int (nI u3_0_4)]) rfl ?_
          refine lv_aload_n hx hb dX5_solve_103 rfl (lv_at hl 0 rfl) ?_
          refine g_Zo_before X hP hp0 m16 dX5_solve_104 ?_
          refine g_So_cuts X hP hp7 m446 dX5_solve_107 ?_
          refine g_Cu_amount X hP hp9 m447 dX5_solve_110 ?_
          refine lv_isub hx hb dX5_solve_113 ?_
          have hfin : f_X5_solve w z x y ho sg hs z1 x1 y1 nu = ((nI u3_0_4) - (nI (kA ((f_X4_copyFrom z1 x1 y1 z x y).2.2))), mkO u1_0_4 u1_1_4, x, mkC u3_0_4 u3_1_4 u3_2_4 u3_3_4, ((f_X2_record ho sg hs ((f_X4_copyFrom z1 x1 y1 z x y).1) ((f_X4_copyFrom z1 x1 y1 z x y).2.1) ((f_X4_copyFrom z1 x1 y1 z x y).2.2)).1), ((f_X2_record ho sg hs ((f_X4_copyFrom z1 x1 y1 z x y).1) ((f_X4_copyFrom z1 x1 y1 z x y).2.1) ((f_X4_copyFrom z1 x1 y1 z x y).2.2)).2.1), ((f_X2_record ho sg hs ((f_X4_copyFrom z1 x1 y1 z x y).1) ((f_X4_copyFrom z1 x1 y1 z x y).2.1) ((f_X4_copyFrom z1 x1 y1 z x y).2.2)).2.2), ((f_X4_copyFrom z1 x1 y1 z x y).1), ((f_X4_copyFrom z1 x1 y1 z x y).2.1), ((f_X4_copyFrom z1 x1 y1 z x y).2.2), u10_0_4) := ((hF4.trans hvx_4.symm).trans (by rw [l_X5_solve_31, if_neg c6] <;> rfl))
          exact kr 114 ls _ _ _ _ hP hS rfl ⟨by rw [hfin] <;> rfl, by rw [hfin]; exact hp1, by rw [hfin]; exact hp2, by rw [hfin]; exact hp3, by rw [hfin]; exact hp4, by rw [hfin]; exact hp5, by rw [hfin]; exact hp6, by rw [hfin]; exact hp7, by rw [hfin]; exact hp8, by rw [hfin]; exact hp9, by rw [hfin]; exact hp10, hfr⟩ dX5_solve_114
        · refine lv_aload_n hx hb dX5_solve_68 rfl (lv_at hl 0 rfl) ?_
          refine g_Zo_now X hP hp0 m15 dX5_solve_69 ?_
          refine lv_aload_n hx hb dX5_solve_72 rfl (lv_at hl 0 rfl) ?_
          refine g_Zo_before X hP hp0 m16 dX5_solve_73 ?_
          refine r_callW (As := [.ref (ad (b + 58))]) (rest := []) (ci := 4) X hP hS (c_X4_copyFrom hi hp1 hp2 hp3 hp7 hp8 hp9 (by omega)) o_X4_copyFrom rfl hp1.lt hp1.ob m271 ⟨rfl, rfl⟩ ⟨Nat.le_of_ble_eq_true rfl, Nat.le_of_ble_eq_true rfl⟩ rfl hl.1 rfl (Nat.le_of_ble_eq_true rfl) ⟨Nat.zero_le _, Nat.zero_le _⟩ dX5_solve_76 (fun V8 H8 locs8 hq hP hS => ?_)
          obtain ⟨hp1, hp2, hp3, h2⟩ := hq
          have hi2_0 := hp2.i0
          have hi2_1 := hp2.i1
          have hi3_0 := hp3.i0
          have hp0 := hp0.keep (V1 := V8) (fun k h8 h9 => h2 k (by omega))
          have hp4 := hp4.keep (V1 := V8) (fun k h8 h9 => h2 k (by omega))
          have hp5 := hp5.keep (V1 := V8) (fun k h8 h9 => h2 k (by omega))
          have hp6 := hp6.keep (V1 := V8) (fun k h8 h9 => h2 k (by omega))
          have hp7 := hp7.keep (V1 := V8) (fun k h8 h9 => h2 k (by omega))
          have hp8 := hp8.keep (V1 := V8) (fun k h8 h9 => h2 k (by omega))
          have hp9 := hp9.keep (V1 := V8) (fun k h8 h9 => h2 k (by omega))
          have hp10 := hp10.keep (V1 := V8) (fun k h8 h9 => h2 k (by omega))
          have hfr : ∀ k, (k < b + 1 ∨ (b + 115 ≤ k ∧ k < b + 172) ∨ (b + 402 ≤ k ∧ k < b + 404) ∨ b + 405 ≤ k) → V8 k = V k := fun k hk => (h2 k (by omega)).trans (hfr k hk)
          refine lv_bipush (v := (-3)) hx hb dX5_solve_79 (by decide) ?_
          have hfin : f_X5_solve w z x y ho sg hs z1 x1 y1 nu = ((-3), ((f_X4_copyFrom (mkO u1_0_4 u1_1_4) x (mkC u3_0_4 u3_1_4 u3_2_4 u3_3_4) ((f_X4_copyFrom z1 x1 y1 z x y).1) ((f_X4_copyFrom z1 x1 y1 z x y).2.1) ((f_X4_copyFrom z1 x1 y1 z x y).2.2)).1), ((f_X4_copyFrom (mkO u1_0_4 u1_1_4) x (mkC u3_0_4 u3_1_4 u3_2_4 u3_3_4) ((f_X4_copyFrom z1 x1 y1 z x y).1) ((f_X4_copyFrom z1 x1 y1 z x y).2.1) ((f_X4_copyFrom z1 x1 y1 z x y).2.2)).2.1), ((f_X4_copyFrom (mkO u1_0_4 u1_1_4) x (mkC u3_0_4 u3_1_4 u3_2_4 u3_3_4) ((f_X4_copyFrom z1 x1 y1 z x y).1) ((f_X4_copyFrom z1 x1 y1 z x y).2.1) ((f_X4_copyFrom z1 x1 y1 z x y).2.2)).2.2), ho, sg, hs, ((f_X4_copyFrom z1 x1 y1 z x y).1), ((f_X4_copyFrom z1 x1 y1 z x y).2.1), ((f_X4_copyFrom z1 x1 y1 z x y).2.2), u10_0_4) := ((hF4.trans hvx_4.symm).trans (by rw [l_X5_solve_31, if_pos c6] <;> rfl))
          exact kr 81 ls _ _ _ _ hP hS rfl ⟨by rw [hfin] <;> rfl, by rw [hfin]; exact hp1, by rw [hfin]; exact hp2, by rw [hfin]; exact hp3, by rw [hfin]; exact hp4, by rw [hfin]; exact hp5, by rw [hfin]; exact hp6, by rw [hfin]; exact hp7, by rw [hfin]; exact hp8, by rw [hfin]; exact hp9, by rw [hfin]; exact hp10, hfr⟩ dX5_solve_81
      | succ dx_4 ihx_4 =>
        intro ix_4 a1_4 u1_0_4 u1_1_4 u3_0_4 u3_1_4 u3_2_4 u3_3_4 u10_0_4 V4 H4 locs4 ls hid hvx_4 hp0 hp1 hp2 hp3 hp4 hp5 hp6 hp7 hp8 hp9 hp10 hfr hP hS hl
        refine lv_iload_n hx hb dX5_solve_31 rfl (lv_at hl 2 rfl) ?_
        refine lv_bipush (v := nI 40) hx hb dX5_solve_32 (by decide) ?_
        refine q_gt (tgt := 62) hx hb (by omega) (by omega) dX5_solve_34 (by decide) (fun h => absurd h (by omega)) (fun c9 => ?_)
        refine lv_iload_n hx hb dX5_solve_37 rfl (lv_at hl 1 rfl) ?_
        refine r_callS (As := [.int (a1_4)]) (rest := []) X hP (c_X5_isCutAdded a1_4) o_X5_isCutAdded m448 ⟨rfl, rfl⟩ ⟨Nat.le_of_ble_eq_true rfl, Nat.le_of_ble_eq_true rfl⟩ rfl hl.1 rfl (Nat.le_of_ble_eq_true rfl) ⟨Nat.zero_le _, Nat.zero_le _⟩ dX5_solve_38 ?_
        refine q_eqB (tgt := 62) hx hb dX5_solve_41 (by decide) (fun c10 => ?_) (fun c10 => ?_)
        · refine lv_iload_n hx hb dX5_solve_62 rfl (lv_at hl 1 rfl) ?_
          refine lv_bipush (v := (-3)) hx hb dX5_solve_63 (by decide) ?_
          refine lv_icmp_ne (tgt := 82) hx hb dX5_solve_65 (by decide) (fun c11 => ?_) (fun c11 => ?_)
          · refine lv_aload_n hx hb dX5_solve_82 rfl (lv_at hl 0 rfl) ?_
            refine g_Zo_history X hP hp0 m22 dX5_solve_83 ?_
            refine lv_aload_n hx hb dX5_solve_86 rfl (lv_at hl 0 rfl) ?_
            refine g_Zo_before X hP hp0 m16 dX5_solve_87 ?_
            refine r_callW (As := [.ref (ad (b + 58))]) (rest := []) (ci := 2) X hP hS (c_X2_record hi hp4 hp5 hp6 hp7 hp8 hp9 hsg (by omega)) o_X2_record rfl hp4.lt hp4.ob m98 ⟨rfl, rfl⟩ ⟨Nat.le_of_ble_eq_true rfl, Nat.le_of_ble_eq_true rfl⟩ rfl hl.1 rfl (Nat.le_of_ble_eq_true rfl) ⟨Nat.zero_le _, Nat.zero_le _⟩ dX5_solve_90 (fun V12 H12 locs12 hq hP hS => ?_)
            obtain ⟨hp4, hp5, hp6, h2⟩ := hq
            have hi4_0 := hp4.i0
            have hp0 := hp0.keep (V1 := V12) (fun k h8 h9 => h2 k (by omega))
            have hp1 := hp1.keep (V1 := V12) (fun k h8 h9 => h2 k (by omega))
            have hp2 := hp2.keep (V1 := V12) (fun k h8 h9 => h2 k (by omega))
            have hp3 := hp3.keep (V1 := V12) (fun k h8 h9 => h2 k (by omega))
            have hp7 := hp7.keep (V1 := V12) (fun k h8 h9 => h2 k (by omega))
            have hp8 := hp8.keep (V1 := V12) (fun k h8 h9 => h2 k (by omega))
            have hp9 := hp9.keep (V1 := V12) (fun k h8 h9 => h2 k (by omega))
            have hp10 := hp10.keep (V1 := V12) (fun k h8 h9 => h2 k (by omega))
            have hfr : ∀ k, (k < b + 1 ∨ (b + 115 ≤ k ∧ k < b + 172) ∨ (b + 402 ≤ k ∧ k < b + 404) ∨ b + 405 ≤ k) → V12 k = V k := fun k hk => (h2 k (by omega)).trans (hfr k hk)
            refine lv_aload_n hx hb dX5_solve_93 rfl (lv_at hl 0 rfl) ?_
            refine g_Zo_now X hP hp0 m15 dX5_solve_94 ?_
            refine g_So_cuts X hP hp1 m446 dX5_solve_97 ?_
            refine g_Cu_amount X hP hp3 m447 dX5_solve_100 ?_
            refine W.eq (g2 := F0 m 103 ls [.int (nI u3_0_4)]) rfl ?_
            refine lv_aload_n hx hb dX5_solve_103 rfl (lv_at hl 0 rfl) ?_
            refine g_Zo_before X hP hp0 m16 dX5_solve_104 ?_
            refine g_So_cuts X hP hp7 m446 dX5_solve_107 ?_
            refine g_Cu_amount X hP hp9 m447 dX5_solve_110 ?_
            refine lv_isub hx hb dX5_solve_113 ?_
            have hfin : f_X5_solve w z x y ho sg hs z1 x1 y1 nu = ((nI u3_0_4) - (nI (kA ((f_X4_copyFrom z1 x1 y1 z x y).2.2))), mkO u1_0_4 u1_1_4, x, mkC u3_0_4 u3_1_4 u3_2_4 u3_3_4, ((f_X2_record ho sg hs ((f_X4_copyFrom z1 x1 y1 z x y).1) ((f_X4_copyFrom z1 x1 y1 z x y).2.1) ((f_X4_copyFrom z1 x1 y1 z x y).2.2)).1), ((f_X2_record ho sg hs ((f_X4_copyFrom z1 x1 y1 z x y).1) ((f_X4_copyFrom z1 x1 y1 z x y).2.1) ((f_X4_copyFrom z1 x1 y1 z x y).2.2)).2.1), ((f_X2_record ho sg hs ((f_X4_copyFrom z1 x1 y1 z x y).1) ((f_X4_copyFrom z1 x1 y1 z x y).2.1) ((f_X4_copyFrom z1 x1 y1 z x y).2.2)).2.2), ((f_X4_copyFrom z1 x1 y1 z x y).1), ((f_X4_copyFrom z1 x1 y1 z x y).2.1), ((f_X4_copyFrom z1 x1 y1 z x y).2.2), u10_0_4) := ((hF4.trans hvx_4.symm).trans (by rw [l_X5_solve_31, if_neg (nt c10), if_neg c11] <;> rfl))
            exact kr 114 ls _ _ _ _ hP hS rfl ⟨by rw [hfin] <;> rfl, by rw [hfin]; exact hp1, by rw [hfin]; exact hp2, by rw [hfin]; exact hp3, by rw [hfin]; exact hp4, by rw [hfin]; exact hp5, by rw [hfin]; exact hp6, by rw [hfin]; exact hp7, by rw [hfin]; exact hp8, by rw [hfin]; exact hp9, by rw [hfin]; exact hp10, hfr⟩ dX5_solve_114
          · refine lv_aload_n hx hb dX5_solve_68 rfl (lv_at hl 0 rfl) ?_
            refine g_Zo_now X hP hp0 m15 dX5_solve_69 ?_
            refine lv_aload_n hx hb dX5_solve_72 rfl (lv_at hl 0 rfl) ?_
            refine g_Zo_before X hP hp0 m16 dX5_solve_73 ?_
            refine r_callW (As := [.ref (ad (b + 58))]) (rest := []) (ci := 4) X hP hS (c_X4_copyFrom hi hp1 hp2 hp3 hp7 hp8 hp9 (by omega)) o_X4_copyFrom rfl hp1.lt hp1.ob m271 ⟨rfl, rfl⟩ ⟨Nat.le_of_ble_eq_true rfl, Nat.le_of_ble_eq_true rfl⟩ rfl hl.1 rfl (Nat.le_of_ble_eq_true rfl) ⟨Nat.zero_le _, Nat.zero_le _⟩ dX5_solve_76 (fun V13 H13 locs13 hq hP hS => ?_)
            obtain ⟨hp1, hp2, hp3, h2⟩ := hq
            have hi2_0 := hp2.i0
            have hi2_1 := hp2.i1
            have hi3_0 := hp3.i0
            have hp0 := hp0.keep (V1 := V13) (fun k h8 h9 => h2 k (by omega))
            have hp4 := hp4.keep (V1 := V13) (fun k h8 h9 => h2 k (by omega))
            have hp5 := hp5.keep (V1 := V13) (fun k h8 h9 => h2 k (by omega))
            have hp6 := hp6.keep (V1 := V13) (fun k h8 h9 => h2 k (by omega))
            have hp7 := hp7.keep (V1 := V13) (fun k h8 h9 => h2 k (by omega))
            have hp8 := hp8.keep (V1 := V13) (fun k h8 h9 => h2 k (by omega))
            have hp9 := hp9.keep (V1 := V13) (fun k h8 h9 => h2 k (by omega))
            have hp10 := hp10.keep (V1 := V13) (fun k h8 h9 => h2 k (by omega))
            have hfr : ∀ k, (k < b + 1 ∨ (b + 115 ≤ k ∧ k < b + 172) ∨ (b + 402 ≤ k ∧ k < b + 404) ∨ b + 405 ≤ k) → V13 k = V k := fun k hk => (h2 k (by omega)).trans (hfr k hk)
            refine lv_bipush (v := (-3)) hx hb dX5_solve_79 (by decide) ?_
            have hfin : f_X5_solve w z x y ho sg hs z1 x1 y1 nu = ((-3), ((f_X4_copyFrom (mkO u1_0_4 u1_1_4) x (mkC u3_0_4 u3_1_4 u3_2_4 u3_3_4) ((f_X4_copyFrom z1 x1 y1 z x y).1) ((f_X4_copyFrom z1 x1 y1 z x y).2.1) ((f_X4_copyFrom z1 x1 y1 z x y).2.2)).1), ((f_X4_copyFrom (mkO u1_0_4 u1_1_4) x (mkC u3_0_4 u3_1_4 u3_2_4 u3_3_4) ((f_X4_copyFrom z1 x1 y1 z x y).1) ((f_X4_copyFrom z1 x1 y1 z x y).2.1) ((f_X4_copyFrom z1 x1 y1 z x y).2.2)).2.1), ((f_X4_copyFrom (mkO u1_0_4 u1_1_4) x (mkC u3_0_4 u3_1_4 u3_2_4 u3_3_4) ((f_X4_copyFrom z1 x1 y1 z x y).1) ((f_X4_copyFrom z1 x1 y1 z x y).2.1) ((f_X4_copyFrom z1 x1 y1 z x y).2.2)).2.2), ho, sg, hs, ((f_X4_copyFrom z1 x1 y1 z x y).1), ((f_X4_copyFrom z1 x1 y1 z x y).2.1), ((f_X4_copyFrom z1 x1 y1 z x y).2.2), u10_0_4) := ((hF4.trans hvx_4.symm).trans (by rw [l_X5_solve_31, if_neg (nt c10), if_pos c11] <;> rfl))
            exact kr 81 ls _ _ _ _ hP hS rfl ⟨by rw [hfin] <;> rfl, by rw [hfin]; exact hp1, by rw [hfin]; exact hp2, by rw [hfin]; exact hp3, by rw [hfin]; exact hp4, by rw [hfin]; exact hp5, by rw [hfin]; exact hp6, by rw [hfin]; exact hp7, by rw [hfin]; exact hp8, by rw [hfin]; exact hp9, by rw [hfin]; exact hp10, hfr⟩ dX5_solve_81
        · refine lv_aload_n hx hb dX5_solve_44 rfl (lv_at hl 0 rfl) ?_
          refine g_Zo_now X hP hp0 m15 dX5_solve_45 ?_
          refine lv_aload_n hx hb dX5_solve_48 rfl (lv_at hl 0 rfl) ?_
          refine g_Zo_numbers X hP hp0 m28 dX5_solve_49 ?_
          refine r_callM (As := [.ref (ad (b + 404))]) (rest := []) (ci := 4) X hP hS (c_X4_makeStep hi hp1 hp2 hp3 hp10 (by omega)) o_X4_makeStep rfl hp1.lt hp1.ob m272 ⟨rfl, rfl⟩ ⟨Nat.le_of_ble_eq_true rfl, Nat.le_of_ble_eq_true rfl⟩ rfl hl.1 rfl (Nat.le_of_ble_eq_true rfl) ⟨Nat.zero_le _, Nat.zero_le _⟩ dX5_solve_52 (fun r V14 H14 locs14 hq hP hS => ?_)
          obtain ⟨hr, hp1, hp3, hp10, h2⟩ := hq
          subst hr
          have hi3_0 := hp3.i0
          have hp0 := hp0.keep (V1 := V14) (fun k h8 h9 => h2 k (by omega))
          have hp2 := hp2.keep (V1 := V14) (fun k h8 h9 => h2 k (by omega))
          have hp4 := hp4.keep (V1 := V14) (fun k h8 h9 => h2 k (by omega))
          have hp5 := hp5.keep (V1 := V14) (fun k h8 h9 => h2 k (by omega))
          have hp6 := hp6.keep (V1 := V14) (fun k h8 h9 => h2 k (by omega))
          have hp7 := hp7.keep (V1 := V14) (fun k h8 h9 => h2 k (by omega))
          have hp8 := hp8.keep (V1 := V14) (fun k h8 h9 => h2 k (by omega))
          have hp9 := hp9.keep (V1 := V14) (fun k h8 h9 => h2 k (by omega))
          have hfr : ∀ k, (k < b + 1 ∨ (b + 115 ≤ k ∧ k < b + 172) ∨ (b + 402 ≤ k ∧ k < b + 404) ∨ b + 405 ≤ k) → V14 k = V k := fun k hk => (h2 k (by omega)).trans (hfr k hk)
          refine lv_istore_n (lv' := [(1, .int ((f_X4_makeStep (mkO u1_0_4 u1_1_4) x (mkC u3_0_4 u3_1_4 u3_2_4 u3_3_4) u10_0_4).1)), (0, .ref (ad b)), (2, .int (nI ix_4))]) hx hb dX5_solve_55 rfl hl (by decide) rfl (fun ls hl => ?_)
          refine lv_iinc (v := nI (ix_4 + 1)) (lv' := [(2, .int (nI (ix_4 + 1))), (1, .int ((f_X4_makeStep (mkO u1_0_4 u1_1_4) x (mkC u3_0_4 u3_1_4 u3_2_4 u3_3_4) u10_0_4).1)), (0, .ref (ad b))]) hx hb dX5_solve_56 hl (k := 2) rfl (nI_inc _) (by decide) rfl (fun ls hl => ?_)
          refine lv_goto (tgt := 31) hx hb dX5_solve_59 (by decide) ?_
          exact ihx_4 (ix_4 + 1) ((f_X4_makeStep (mkO u1_0_4 u1_1_4) x (mkC u3_0_4 u3_1_4 u3_2_4 u3_3_4) u10_0_4).1) (uB ((f_X4_makeStep (mkO u1_0_4 u1_1_4) x (mkC u3_0_4 u3_1_4 u3_2_4 u3_3_4) u10_0_4).2.1)) (uT ((f_X4_makeStep (mkO u1_0_4 u1_1_4) x (mkC u3_0_4 u3_1_4 u3_2_4 u3_3_4) u10_0_4).2.1)) (kA ((f_X4_makeStep (mkO u1_0_4 u1_1_4) x (mkC u3_0_4 u3_1_4 u3_2_4 u3_3_4) u10_0_4).2.2.1)) (kC ((f_X4_makeStep (mkO u1_0_4 u1_1_4) x (mkC u3_0_4 u3_1_4 u3_2_4 u3_3_4) u10_0_4).2.2.1)) (kS ((f_X4_makeStep (mkO u1_0_4 u1_1_4) x (mkC u3_0_4 u3_1_4 u3_2_4 u3_3_4) u10_0_4).2.2.1)) (kW ((f_X4_makeStep (mkO u1_0_4 u1_1_4) x (mkC u3_0_4 u3_1_4 u3_2_4 u3_3_4) u10_0_4).2.2.1)) ((f_X4_makeStep (mkO u1_0_4 u1_1_4) x (mkC u3_0_4 u3_1_4 u3_2_4 u3_3_4) u10_0_4).2.2.2) _ _ _ ls (by omega) (Eq.trans (Eq.symm (by rw [l_X5_solve_31, if_pos c10] <;> rfl)) hvx_4) hp0 hp1 hp2 hp3 hp4 hp5 hp6 hp7 hp8 hp9 hp10 hfr hP hS (lv_sub hl [2, 1, 0] rfl)
    exact L4 41 0 ((f_X4_makeStep z x y nu).1) (uB ((f_X4_makeStep z x y nu).2.1)) (uT ((f_X4_makeStep z x y nu).2.1)) (kA ((f_X4_makeStep z x y nu).2.2.1)) (kC ((f_X4_makeStep z x y nu).2.2.1)) (kS ((f_X4_makeStep z x y nu).2.2.1)) (kW ((f_X4_makeStep z x y nu).2.2.1)) ((f_X4_makeStep z x y nu).2.2.2) _ _ _ ls (by omega) rfl hp0 hp1 hp2 hp3 hp4 hp5 hp6 hp7 hp8 hp9 hp10 hfr hP hS (lv_sub hl [2, 1, 0] rfl)
  · refine lv_iload_n hx hb dX5_solve_27 rfl (lv_at hl 0 rfl) ?_
    have hfin : f_X5_solve w z x y ho sg hs z1 x1 y1 nu = ((f_X4_makeStep z x y nu).1, ((f_X4_makeStep z x y nu).2.1), x, ((f_X4_makeStep z x y nu).2.2.1), ho, sg, hs, ((f_X4_copyFrom z1 x1 y1 z x y).1), ((f_X4_copyFrom z1 x1 y1 z x y).2.1), ((f_X4_copyFrom z1 x1 y1 z x y).2.2), ((f_X4_makeStep z x y nu).2.2.2)) := (by rw [f_X5_solve, if_pos c3] <;> rfl)
    exact kr 28 ls _ _ _ _ hP hS rfl ⟨by rw [hfin] <;> rfl, by rw [hfin]; exact hp1, by rw [hfin]; exact hp2, by rw [hfin]; exact hp3, by rw [hfin]; exact hp4, by rw [hfin]; exact hp5, by rw [hfin]; exact hp6, by rw [hfin]; exact hp7, by rw [hfin]; exact hp8, by rw [hfin]; exact hp9, by rw [hfin]; exact hp10, hfr⟩ dX5_solve_28
theorem o_X5_solve : okV yX5_solve cX5_solve 3 (some .int) 0 := ⟨m443, m444, m2, m445, by decide +kernel, by decide +kernel, by decide +kernel⟩
def rmX6_step : Room := { frames := 6, cells := 0, slots := 0, locals := 144 }
def f_X6_step (x : MoC) (nn : Nat) (mm : Nat) (kk : Nat) : Int32 × MoC :=
  (if ((f_X6_makeStep (mkM (oR x) (oP x) (oA x) (oB (f_X6_remember x)) (oS x) (oI x) (oX x) (oL x) (oT x) (oN x)) nn mm kk).1) < 0 then ((f_X6_makeStep (mkM (oR x) (oP x) (oA x) (oB (f_X6_remember x)) (oS x) (oI x) (oX x) (oL x) (oT x) (oN x)) nn mm kk).1, mkM (oR ((f_X6_makeStep (mkM (oR x) (oP x) (oA x) (oB (f_X6_remember x)) (oS x) (oI x) (oX x) (oL x) (oT x) (oN x)) nn mm kk).2)) (oP x) (oA x) (oB (f_X6_remember x)) (oS x) (oI x) (oX x) (oL x) (oT x) (oN x)) else ((f_X6_makeStep (mkM (oR x) (oP x) (oA x) (oB (f_X6_remember x)) (oS x) (oI x) (oX x) (oL x) (oT x) (oN x)) nn mm kk).1, mkM (oR ((f_X6_makeStep (mkM (oR x) (oP x) (oA x) (oB (f_X6_remember x)) (oS x) (oI x) (oX x) (oL x) (oT x) (oN x)) nn mm kk).2)) (oP (f_X6_record (mkM (oR ((f_X6_makeStep (mkM (oR x) (oP x) (oA x) (oB (f_X6_remember x)) (oS x) (oI x) (oX x) (oL x) (oT x) (oN x)) nn mm kk).2)) (oP x) (oA x) (oB (f_X6_remember x)) (oS x) (oI x) (oX x) (oL x) (oT x) (oN x)))) (oA x) (oB (f_X6_remember x)) (oS (f_X6_record (mkM (oR ((f_X6_makeStep (mkM (oR x) (oP x) (oA x) (oB (f_X6_remember x)) (oS x) (oI x) (oX x) (oL x) (oT x) (oN x)) nn mm kk).2)) (oP x) (oA x) (oB (f_X6_remember x)) (oS x) (oI x) (oX x) (oL x) (oT x) (oN x)))) (oI x) (oX x) (oL x) (oT x) (oN x)))
set_option maxHeartbeats 4000000 in
set_option maxRecDepth 100000 in
theorem c_X6_step {l : Launch} {dd : va_G} {t : CL4} {N : Nat} {ad : Nat → Nat} {V : Nat → va_E} {b : Nat} {x : MoC} {nn : Nat} {mm : Nat} {kk : Nat} (hi : inj N ad) (hp0 : MoP N ad V t b x)  (h0 : oR x 0 = nI nn) (h1 : oR x 1 = nI mm) (h3 : oR x 3 = nI kk) (hn : nn ≤ 7) (hm : mm ≤ 8) (hk : kk ≤ 40) (hst : oS x ≤ 4) (hc : RaysOk x mm kk) (hbest : ¬ oR x 4 < 0 → ∀ cn, cn < mm → ¬ f_X6_server x nn mm kk (oR x 4) cn < 0) : MM l dd t N ad V yX6_step cX6_step 2 (some .int) rmX6_step [.ref (ad b)] (fun r V1 => (r = (f_X6_step x nn mm kk).1) ∧ (MoP N ad V1 t b ((f_X6_step x nn mm kk).2)) ∧ (∀ k, (k < b ∨ b + 7 ≤ k) → V1 k = V k)) := by
  refine MM.of (by decide +kernel) ⟨rfl, rfl⟩ (Nat.le_of_ble_eq_true rfl) rfl ?_
  intro p e s m as below meth c Q X H hP hS ls hl kr
  have X : WX p s m as c cX6_step 2 RX6 dd t := X
  have hx := X.1.1
  have hb := X.1.2.1
  have hl : lv_has ls 2 [(0, .ref (ad b))] := hl
  have hle0 := hp0.le
  have hfr : ∀ k, (k < b ∨ b + 7 ≤ k) → V k = V k := fun _ _ => rfl
  refine lv_aload_n hx hb dX6_step_0 rfl (lv_at hl 0 rfl) ?_
  refine r_callW (As := []) (rest := []) (ci := 6) X hP hS (c_X6_remember hi hp0) o_X6_remember rfl hp0.lt hp0.ob m146 ⟨rfl, rfl⟩ ⟨Nat.le_of_ble_eq_true rfl, Nat.le_of_ble_eq_true rfl⟩ rfl hl.1 rfl (Nat.le_of_ble_eq_true rfl) ⟨Nat.zero_le _, Nat.zero_le _⟩ dX6_step_1 (fun V1 H1 locs1 hq hP hS => ?_)
  obtain ⟨hp0, h2⟩ := hq
  have hp0 : MoP N ad V1 t b (mkM (oR x) (oP x) (oA x) (oB (f_X6_remember x)) (oS x) (oI x) (oX x) (oL x) (oT x) (oN x)) := hp0.ext (fun _ _ => congrFun u_X6_remember_0_0 _) (fun _ _ => congrFun u_X6_remember_0_1 _) (fun _ _ => congrFun u_X6_remember_0_2 _) (fun _ _ => rfl) u_X6_remember_0_4 u_X6_remember_0_5 (fun _ _ => congrFun u_X6_remember_0_6 _) u_X6_remember_0_7 u_X6_remember_0_8 (fun _ _ => congrFun u_X6_remember_0_9 _)
  have hfr : ∀ k, (k < b ∨ b + 7 ≤ k) → V1 k = V k := fun k hk => (h2 k (by omega)).trans (hfr k hk)
  refine lv_aload_n hx hb dX6_step_4 rfl (lv_at hl 0 rfl) ?_
  refine r_callM (As := []) (rest := []) (ci := 6) X hP hS (c_X6_makeStep (nn := nn) (mm := mm) (kk := kk) hi hp0 h0 h1 h3 hn hm hk (RaysOk.cg hc (fun j => congrFun oR_mk j)) (hbest_cg (x := x) hn hm (fun j => congrFun oR_mk j) hbest)) o_X6_makeStep rfl hp0.lt hp0.ob m382 ⟨rfl, rfl⟩ ⟨Nat.le_of_ble_eq_true rfl, Nat.le_of_ble_eq_true rfl⟩ rfl hl.1 rfl (Nat.le_of_ble_eq_true rfl) ⟨Nat.zero_le _, Nat.zero_le _⟩ dX6_step_5 (fun r V2 H2 locs2 hq hP hS => ?_)
  obtain ⟨hr, hp0, h2⟩ := hq
  subst hr
  have hp0 : MoP N ad V2 t b (mkM (oR ((f_X6_makeStep (mkM (oR x) (oP x) (oA x) (oB (f_X6_remember x)) (oS x) (oI x) (oX x) (oL x) (oT x) (oN x)) nn mm kk).2)) (oP x) (oA x) (oB (f_X6_remember x)) (oS x) (oI x) (oX x) (oL x) (oT x) (oN x)) := hp0.ext (fun _ _ => rfl) (fun _ _ => congrFun u_X6_makeStep_0_1 _) (fun _ _ => congrFun u_X6_makeStep_0_2 _) (fun _ _ => congrFun u_X6_makeStep_0_3 _) u_X6_makeStep_0_4 u_X6_makeStep_0_5 (fun _ _ => congrFun u_X6_makeStep_0_6 _) u_X6_makeStep_0_7 u_X6_makeStep_0_8 (fun _ _ => congrFun u_X6_makeStep_0_9 _)
  have hfr : ∀ k, (k < b ∨ b + 7 ≤ k) → V2 k = V k := fun k hk => (h2 k (by omega)).trans (hfr k hk)
  refine lv_istore_n (lv' := [(1, .int ((f_X6_makeStep (mkM (oR x) (oP x) (oA x) (oB (f_X6_remember x)) (oS x) (oI x) (oX x) (oL x) (oT x) (oN x)) nn mm kk).1)), (0, .ref (ad b))]) hx hb dX6_step_8 rfl hl (by decide) rfl (fun ls hl => ?_)
  refine lv_iload_n hx hb dX6_step_9 rfl (lv_at hl 0 rfl) ?_
  refine u_lt (tgt := 17) hx hb dX6_step_10 (by decide) (fun c3 => ?_) (fun c3 => ?_)
  · refine lv_iload_n hx hb dX6_step_17 rfl (lv_at hl 0 rfl) ?_
    have hfin : f_X6_step x nn mm kk = ((f_X6_makeStep (mkM (oR x) (oP x) (oA x) (oB (f_X6_remember x)) (oS x) (oI x) (oX x) (oL x) (oT x) (oN x)) nn mm kk).1, mkM (oR ((f_X6_makeStep (mkM (oR x) (oP x) (oA x) (oB (f_X6_remember x)) (oS x) (oI x) (oX x) (oL x) (oT x) (oN x)) nn mm kk).2)) (oP x) (oA x) (oB (f_X6_remember x)) (oS x) (oI x) (oX x) (oL x) (oT x) (oN x)) := (by rw [f_X6_step, if_pos c3] <;> rfl)
    exact kr 18 ls _ _ _ _ hP hS rfl ⟨by rw [hfin] <;> rfl, by rw [hfin]; exact hp0, hfr⟩ dX6_step_18
  · refine lv_aload_n hx hb dX6_step_13 rfl (lv_at hl 1 rfl) ?_
    refine r_callW (As := []) (rest := []) (ci := 6) X hP hS (c_X6_record hi hp0 hst) o_X6_record rfl hp0.lt hp0.ob m150 ⟨rfl, rfl⟩ ⟨Nat.le_of_ble_eq_true rfl, Nat.le_of_ble_eq_true rfl⟩ rfl hl.1 rfl (Nat.le_of_ble_eq_true rfl) ⟨Nat.zero_le _, Nat.zero_le _⟩ dX6_step_14 (fun V4 H4 locs4 hq hP hS => ?_)
    obtain ⟨hp0, h2⟩ := hq
    have hp0 : MoP N ad V4 t b (mkM (oR ((f_X6_makeStep (mkM (oR x) (oP x) (oA x) (oB (f_X6_remember x)) (oS x) (oI x) (oX x) (oL x) (oT x) (oN x)) nn mm kk).2)) (oP (f_X6_record (mkM (oR ((f_X6_makeStep (mkM (oR x) (oP x) (oA x) (oB (f_X6_remember x)) (oS x) (oI x) (oX x) (oL x) (oT x) (oN x)) nn mm kk).2)) (oP x) (oA x) (oB (f_X6_remember x)) (oS x) (oI x) (oX x) (oL x) (oT x) (oN x)))) (oA x) (oB (f_X6_remember x)) (oS (f_X6_record (mkM (oR ((f_X6_makeStep (mkM (oR x) (oP x) (oA x) (oB (f_X6_remember x)) (oS x) (oI x) (oX x) (oL x) (oT x) (oN x)) nn mm kk).2)) (oP x) (oA x) (oB (f_X6_remember x)) (oS x) (oI x) (oX x) (oL x) (oT x) (oN x)))) (oI x) (oX x) (oL x) (oT x) (oN x)) := hp0.ext (fun _ _ => congrFun u_X6_record_0_0 _) (fun _ _ => rfl) (fun _ _ => congrFun u_X6_record_0_2 _) (fun _ _ => congrFun u_X6_record_0_3 _) rfl u_X6_record_0_5 (fun _ _ => congrFun u_X6_record_0_6 _) u_X6_record_0_7 u_X6_record_0_8 (fun _ _ => congrFun u_X6_record_0_9 _)
    have hfr : ∀ k, (k < b ∨ b + 7 ≤ k) → V4 k = V k := fun k hk => (h2 k (by omega)).trans (hfr k hk)
    refine lv_iload_n hx hb dX6_step_17 rfl (lv_at hl 0 rfl) ?_
    have hfin : f_X6_step x nn mm kk = ((f_X6_makeStep (mkM (oR x) (oP x) (oA x) (oB (f_X6_remember x)) (oS x) (oI x) (oX x) (oL x) (oT x) (oN x)) nn mm kk).1, mkM (oR ((f_X6_makeStep (mkM (oR x) (oP x) (oA x) (oB (f_X6_remember x)) (oS x) (oI x) (oX x) (oL x) (oT x) (oN x)) nn mm kk).2)) (oP (f_X6_record (mkM (oR ((f_X6_makeStep (mkM (oR x) (oP x) (oA x) (oB (f_X6_remember x)) (oS x) (oI x) (oX x) (oL x) (oT x) (oN x)) nn mm kk).2)) (oP x) (oA x) (oB (f_X6_remember x)) (oS x) (oI x) (oX x) (oL x) (oT x) (oN x)))) (oA x) (oB (f_X6_remember x)) (oS (f_X6_record (mkM (oR ((f_X6_makeStep (mkM (oR x) (oP x) (oA x) (oB (f_X6_remember x)) (oS x) (oI x) (oX x) (oL x) (oT x) (oN x)) nn mm kk).2)) (oP x) (oA x) (oB (f_X6_remember x)) (oS x) (oI x) (oX x) (oL x) (oT x) (oN x)))) (oI x) (oX x) (oL x) (oT x) (oN x)) := (by rw [f_X6_step, if_neg c3] <;> rfl)
    exact kr 18 ls _ _ _ _ hP hS rfl ⟨by rw [hfin] <;> rfl, by rw [hfin]; exact hp0, hfr⟩ dX6_step_18
theorem o_X6_step : okV yX6_step cX6_step 2 (some .int) 0 := ⟨m379, m380, m5, m381, by decide +kernel, by decide +kernel, by decide +kernel⟩
theorem u_X6_step_0_2 {x : MoC} {nn : Nat} {mm : Nat} {kk : Nat} : oA ((f_X6_step x nn mm kk).2) = oA x := by
  unfold f_X6_step
  (repeat' split) <;> rfl
theorem u_X6_step_0_5 {x : MoC} {nn : Nat} {mm : Nat} {kk : Nat} : oI ((f_X6_step x nn mm kk).2) = oI x := by
  unfold f_X6_step
  (repeat' split) <;> rfl
theorem u_X6_step_0_6 {x : MoC} {nn : Nat} {mm : Nat} {kk : Nat} : oX ((f_X6_step x nn mm kk).2) = oX x := by
  unfold f_X6_step
  (repeat' split) <;> rfl
theorem u_X6_step_0_7 {x : MoC} {nn : Nat} {mm : Nat} {kk : Nat} : oL ((f_X6_step x nn mm kk).2) = oL x := by
  unfold f_X6_step
  (repeat' split) <;> rfl
theorem u_X6_step_0_8 {x : MoC} {nn : Nat} {mm : Nat} {kk : Nat} : oT ((f_X6_step x nn mm kk).2) = oT x := by
  unfold f_X6_step
  (repeat' split) <;> rfl
theorem u_X6_step_0_9 {x : MoC} {nn : Nat} {mm : Nat} {kk : Nat} : oN ((f_X6_step x nn mm kk).2) = oN x := by
  unfold f_X6_step
  (repeat' split) <;> rfl
