/-! ===== step, solve, readCut ===== -/
section RelL
variable {nn mm kk : Nat} {z z1 : SoC} {x x1 : PlC} {u u1 : CuC} {y : MoC} {w : ZoC} {ho : HoC} {sg : Nat → Nat} {hs : Nat → StC} {nu : Nat → Int32} {tx : TxC}
def W9 (a : Int32 × SoC × PlC × CuC × HoC × (Nat → Nat) × (Nat → StC) × SoC × PlC × CuC × (Nat → Int32)) (b : Int32 × MoC) : Prop := a.1 = b.1 ∧ (∃ n m k, RelS n m k a.2.1 a.2.2.1 a.2.2.2.1 (oR b.2)) ∧ RelH a.2.2.2.2.1 a.2.2.2.2.2.1 a.2.2.2.2.2.2.1 (oS b.2) (oP b.2)
set_option maxRecDepth 100000 in
theorem w_step (h : RelS nn mm kk z x u (oR y)) (hh : RelH ho sg hs (oS y) (oP y)) : W9 (f_X5_step w z x u ho sg hs z1 x1 u1 nu) (f_X6_step y nn mm kk) := by
  obtain ⟨e, k, hr⟩ := m_step (nu := nu) (y := mkM (oR y) (oP y) (oA y) (oB (f_X6_remember y)) (oS y) (oI y) (oX y) (oL y) (oT y) (oN y)) h
  unfold f_X5_step f_X6_step
  rw [e]
  by_cases c : (f_X6_makeStep (mkM (oR y) (oP y) (oA y) (oB (f_X6_remember y)) (oS y) (oI y) (oX y) (oL y) (oT y) (oN y)) nn mm kk).1 < 0
  · rw [if_pos c, if_pos c]; exact ⟨rfl, ⟨nn, mm, k, hr⟩, hh⟩
  · rw [if_neg c, if_neg c]
    refine ⟨rfl, ⟨nn, mm, k, hr⟩, ?_⟩
    exact RelH.record (y := mkM (oR (f_X6_makeStep (mkM (oR y) (oP y) (oA y) (oB (f_X6_remember y)) (oS y) (oI y) (oX y) (oL y) (oT y) (oN y)) nn mm kk).2) (oP y) (oA y) (oB (f_X6_remember y)) (oS y) (oI y) (oX y) (oL y) (oT y) (oN y)) hh ((RelS.copy h).cg (fun j hj => (rm_2 444 0 (oB y) j).trans (if_pos (by omega))))
theorem mk_vals : (f_X6_makeStep y nn mm kk).1 = (-4) ∨ (f_X6_makeStep y nn mm kk).1 = (-3) ∨ (f_X6_makeStep y nn mm kk).1 = nI 2 ∨ (f_X6_makeStep y nn mm kk).1 = nI 0 ∨ (f_X6_makeStep y nn mm kk).1 = nI 1 := by
  unfold f_X6_makeStep
  (repeat' split) <;> first | exact Or.inl rfl | exact Or.inr (Or.inl rfl) | exact Or.inr (Or.inr (Or.inl rfl)) | exact Or.inr (Or.inr (Or.inr (Or.inl rfl))) | exact Or.inr (Or.inr (Or.inr (Or.inr rfl)))
set_option maxRecDepth 100000 in
theorem so_back {so : SoC} {cu : CuC} {nu' : Nat → Int32} {y' : MoC} (h : RelS nn mm kk z x u (oR y)) (hh : RelH ho sg hs (oS y) (oP y)) (eB : ∀ j, j < 444 → oB y' j = oR y j) (eP : oP y' = oP y) (eS : oS y' = oS y) : W9 ((-3), (f_X4_copyFrom so x cu (f_X4_copyFrom z1 x1 u1 z x u).1 (f_X4_copyFrom z1 x1 u1 z x u).2.1 (f_X4_copyFrom z1 x1 u1 z x u).2.2).1, (f_X4_copyFrom so x cu (f_X4_copyFrom z1 x1 u1 z x u).1 (f_X4_copyFrom z1 x1 u1 z x u).2.1 (f_X4_copyFrom z1 x1 u1 z x u).2.2).2.1, (f_X4_copyFrom so x cu (f_X4_copyFrom z1 x1 u1 z x u).1 (f_X4_copyFrom z1 x1 u1 z x u).2.1 (f_X4_copyFrom z1 x1 u1 z x u).2.2).2.2, ho, sg, hs, (f_X4_copyFrom z1 x1 u1 z x u).1, (f_X4_copyFrom z1 x1 u1 z x u).2.1, (f_X4_copyFrom z1 x1 u1 z x u).2.2, nu') ((-3), f_X6_goBack y') := by
  refine ⟨rfl, ⟨nn, mm, kk, (RelS.copy (so := so) (x := x) (y := cu) (RelS.copy (so := z1) (x := x1) (y := u1) h)).cg (fun j hj => ?_)⟩, ?_⟩
  · show l_X6_goBack_2 y' 444 0 (oR y') j = oR y j
    rw [gb_2, if_pos (by omega)]; exact eB j hj
  · show RelH ho sg hs (oS y') (oP y')
    rw [eP, eS]; exact hh
set_option maxRecDepth 100000 in
theorem so_done {so : SoC} {cu : CuC} {nu' : Nat → Int32} {y' : MoC} {k : Nat} {wv : Int32} (h : RelS nn mm kk z x u (oR y)) (hh : RelH ho sg hs (oS y) (oP y)) (eB : ∀ j, j < 444 → oB y' j = oR y j) (eP : oP y' = oP y) (eS : oS y' = oS y) (hw : wv = nI kk) (hr : RelS nn mm k so x cu (oR y')) : W9 (nI (kA cu) - nI (kA (f_X4_copyFrom z1 x1 u1 z x u).2.2), so, x, cu, (f_X2_record ho sg hs (f_X4_copyFrom z1 x1 u1 z x u).1 (f_X4_copyFrom z1 x1 u1 z x u).2.1 (f_X4_copyFrom z1 x1 u1 z x u).2.2).1, (f_X2_record ho sg hs (f_X4_copyFrom z1 x1 u1 z x u).1 (f_X4_copyFrom z1 x1 u1 z x u).2.1 (f_X4_copyFrom z1 x1 u1 z x u).2.2).2.1, (f_X2_record ho sg hs (f_X4_copyFrom z1 x1 u1 z x u).1 (f_X4_copyFrom z1 x1 u1 z x u).2.1 (f_X4_copyFrom z1 x1 u1 z x u).2.2).2.2, (f_X4_copyFrom z1 x1 u1 z x u).1, (f_X4_copyFrom z1 x1 u1 z x u).2.1, (f_X4_copyFrom z1 x1 u1 z x u).2.2, nu') (oR (f_X6_record y') 3 - wv, f_X6_record y') := by
  have hc := RelS.copy (so := z1) (x := x1) (y := u1) h
  refine ⟨?_, ⟨nn, mm, k, ?_⟩, ?_⟩
  · show nI (kA cu) - nI (kA (f_X4_copyFrom z1 x1 u1 z x u).2.2) = oR (f_X6_record y') 3 - wv
    rw [u_X6_record_0_0, hr.2.1.2.1, hr.2.1.2.2.1, hc.2.1.2.1, hw]
  · show RelS nn mm k so x cu (oR (f_X6_record y'))
    rw [u_X6_record_0_0]; exact hr
  · exact RelH.record (y := y') (by rw [eP, eS]; exact hh) (hc.cg eB)
set_option maxRecDepth 100000 in
theorem w_solve (h : RelS nn mm kk z x u (oR y)) (hh : RelH ho sg hs (oS y) (oP y)) : W9 (f_X5_solve w z x u ho sg hs z1 x1 u1 nu) (f_X6_solve y nn mm kk) := by
  have hn := h.1.1.1
  have hm := h.1.1.2.1
  have eR : oR (f_X6_remember y) = oR y := u_X6_remember_0_0
  have hw : oR (f_X6_remember y) 3 = nI kk := by rw [eR]; exact h.2.1.2.2.1
  have eB0 : ∀ j, j < 444 → oB (f_X6_remember y) j = oR y j := fun j hj => (rm_2 444 0 (oB y) j).trans (if_pos (by omega))
  have h0 : RelS nn mm kk z x u (oR (f_X6_remember y)) := by rw [eR]; exact h
  have L : ∀ (d i : Nat) (a : Int32) (so : SoC) (cu : CuC) (nu' : Nat → Int32) (y' : MoC) (k : Nat), i + d = 41 → RelS nn mm k so x cu (oR y') → i ≤ k → (a = (-3) ∨ (a = (-4) ∧ 0 < i) ∨ a = nI 2 ∨ ((a = nI 0 ∨ a = nI 1) ∧ i + 1 ≤ k)) → (∀ j, j < 444 → oB y' j = oR y j) → oP y' = oP y → oS y' = oS y → W9 (l_X5_solve_31 w z x u ho sg hs z1 x1 u1 nu d i a (uB so) (uT so) (kA cu) (kC cu) (kS cu) (kW cu) nu') (l_X6_solve_18 nn mm (oR (f_X6_remember y) 3) (d + 1) i a y') := by
    intro d
    induction d with
    | zero => intro i a so cu nu' y' k hid hr hik; have := hr.2.1.1; omega
    | succ d ih =>
      intro i a so cu nu' y' k hid hr hik hcase eB eP eS
      rw [l_X5_solve_31, l_X6_solve_18]
      rcases hcase with rfl | ⟨rfl, hi0⟩ | rfl | ⟨ha, hk1⟩
      · rw [if_neg (show ¬ f_X5_isCutAdded (-3) = true by decide), if_pos (show (-3 : Int32) = (-3) from rfl), if_pos (show (-3 : Int32) < 0 by decide)]
        unfold e_X6_solve
        rw [if_pos (show (-3 : Int32) = (-3) from rfl)]
        exact so_back h hh eB eP eS
      · rw [if_neg (show ¬ f_X5_isCutAdded (-4) = true by decide), if_neg (show ¬ (-4 : Int32) = (-3) by decide), if_pos (show (-4 : Int32) < 0 by decide)]
        unfold e_X6_solve
        rw [if_neg (show ¬ (-4 : Int32) = (-3) by decide), if_pos (show (-4 : Int32) = (-4) from rfl), if_neg (show ¬ i = 0 by omega)]
        exact so_done h hh eB eP eS hw hr
      · rw [if_neg (show ¬ f_X5_isCutAdded (nI 2) = true by decide), if_neg (show ¬ nI 2 = (-3) by decide), if_neg (show ¬ nI 2 < 0 by decide), if_pos (show nI 2 = nI 2 from rfl)]
        unfold e_X6_solve
        rw [if_neg (show ¬ nI 2 = (-3) by decide), if_neg (show ¬ nI 2 = (-4) by decide)]
        exact so_done h hh eB eP eS hw hr
      · have hadd : f_X5_isCutAdded a = true := by rcases ha with rfl | rfl <;> decide
        have hnn : ¬ a < 0 := by rcases ha with rfl | rfl <;> decide
        have hn2 : ¬ a = nI 2 := by rcases ha with rfl | rfl <;> decide
        rw [if_pos hadd, if_neg hnn, if_neg hn2, hr.row.tnk]
        obtain ⟨e, k2, hr2⟩ := m_step (nu := nu') (y := y') hr
        have e' : (f_X4_makeStep (mkO (uB so) (uT so)) x (mkC (kA cu) (kC cu) (kS cu) (kW cu)) nu').1 = (f_X6_makeStep y' nn mm k).1 := e
        rw [e']
        have hstep := mk_ok hn hm hr.row
        have hvals := mk_vals (y := y') (nn := nn) (mm := mm) (kk := k)
        have ek2 : tn (oR (f_X6_makeStep y' nn mm k).2 3) = k2 := hr2.row.tnk
        have hfin : i + 1 ≤ k2 ∧ ((f_X6_makeStep y' nn mm k).1 = (-3) ∨ ((f_X6_makeStep y' nn mm k).1 = (-4) ∧ 0 < i + 1) ∨ (f_X6_makeStep y' nn mm k).1 = nI 2 ∨ (((f_X6_makeStep y' nn mm k).1 = nI 0 ∨ (f_X6_makeStep y' nn mm k).1 = nI 1) ∧ i + 1 + 1 ≤ k2)) := by
          rcases hstep with ⟨q1, q2⟩ | ⟨q1, q2⟩ | ⟨q1, q2, q3⟩
          · rw [q2, hr.row.tnk] at ek2
            refine ⟨by omega, ?_⟩
            rcases hvals with v | v | v | v | v
            · exact Or.inr (Or.inl ⟨v, by omega⟩)
            · exact Or.inl v
            · rw [v] at q1; exact absurd q1 (by decide)
            · rw [v] at q1; exact absurd q1 (by decide)
            · rw [v] at q1; exact absurd q1 (by decide)
          · rw [q2.tnk] at ek2
            exact ⟨by omega, Or.inr (Or.inr (Or.inl q1))⟩
          · rw [q3.tnk] at ek2
            exact ⟨by omega, Or.inr (Or.inr (Or.inr ⟨q1, by omega⟩))⟩
        exact ih (i + 1) _ _ _ _ _ k2 (by omega) hr2 hfin.1 hfin.2 (fun j hj => by rw [u_X6_makeStep_0_3]; exact eB j hj) (by rw [u_X6_makeStep_0_1]; exact eP) (by rw [u_X6_makeStep_0_4]; exact eS)
  have ek0 : tn (oR (f_X6_remember y) 3) = kk := h0.row.tnk
  obtain ⟨e, k2, hr2⟩ := m_step (nu := nu) (y := f_X6_remember y) h0
  have hstep := mk_ok hn hm h0.row
  have hvals := mk_vals (y := f_X6_remember y) (nn := nn) (mm := mm) (kk := kk)
  have eP1 : oP (f_X6_makeStep (f_X6_remember y) nn mm kk).2 = oP y := by rw [u_X6_makeStep_0_1]; exact u_X6_remember_0_1
  have eS1 : oS (f_X6_makeStep (f_X6_remember y) nn mm kk).2 = oS y := by rw [u_X6_makeStep_0_4]; exact u_X6_remember_0_4
  have eB1 : ∀ j, j < 444 → oB (f_X6_makeStep (f_X6_remember y) nn mm kk).2 j = oR y j := fun j hj => by rw [u_X6_makeStep_0_3]; exact eB0 j hj
  unfold f_X5_solve f_X6_solve
  rw [ek0, e]
  by_cases c : (f_X6_makeStep (f_X6_remember y) nn mm kk).1 < 0
  · rw [if_pos c]
    have e2 : (f_X6_makeStep (f_X6_remember y) nn mm kk).2 = f_X6_remember y := by
      rcases hstep with ⟨q1, q2⟩ | ⟨q1, -⟩ | ⟨q1, -⟩
      · exact q2
      · rw [q1] at c; exact absurd c (by decide)
      · rcases q1 with q1 | q1 <;> (rw [q1] at c; exact absurd c (by decide))
    have hgo : l_X6_solve_18 nn mm (oR (f_X6_remember y) 3) 42 0 (f_X6_makeStep (f_X6_remember y) nn mm kk).1 (f_X6_makeStep (f_X6_remember y) nn mm kk).2 = ((f_X6_makeStep (f_X6_remember y) nn mm kk).1, f_X6_goBack (f_X6_remember y)) := by
      rw [e2, l_X6_solve_18, if_pos c]
      unfold e_X6_solve
      rcases hvals with v | v | v | v | v
      · rw [v, if_neg (by decide), if_pos rfl, if_pos rfl]
      · rw [v, if_pos rfl]
      · rw [v] at c; exact absurd c (by decide)
      · rw [v] at c; exact absurd c (by decide)
      · rw [v] at c; exact absurd c (by decide)
    rw [hgo]
    refine ⟨rfl, ⟨nn, mm, k2, hr2.cg (fun j hj => ?_)⟩, hh⟩
    show l_X6_goBack_2 (f_X6_remember y) 444 0 (oR (f_X6_remember y)) j = oR (f_X6_makeStep (f_X6_remember y) nn mm kk).2 j
    rw [gb_2, if_pos (by omega), eB0 j hj, e2, eR]
  · rw [if_neg c]
    have ek2 : tn (oR (f_X6_makeStep (f_X6_remember y) nn mm kk).2 3) = k2 := hr2.row.tnk
    refine L 41 0 _ _ _ _ _ k2 rfl hr2 (Nat.zero_le _) ?_ eB1 eP1 eS1
    rcases hstep with ⟨q1, -⟩ | ⟨q1, q2⟩ | ⟨q1, q2, q3⟩
    · exact absurd q1 c
    · exact Or.inr (Or.inr (Or.inl q1))
    · rw [q3.tnk] at ek2
      exact Or.inr (Or.inr (Or.inr ⟨q1, by omega⟩))
end RelL
