/-! ===== exclude, solve, dropLoose; the loop ===== -/
theorem e_keep {wv : Int32} {i : Nat} {a : Int32} {y : MoC} : oA (e_X6_solve wv i a y).2 = oA y ∧ oI (e_X6_solve wv i a y).2 = oI y ∧ oX (e_X6_solve wv i a y).2 = oX y ∧ oL (e_X6_solve wv i a y).2 = oL y := by
  unfold e_X6_solve
  (repeat' split) <;> first | exact ⟨u_X6_goBack_0_2, u_X6_goBack_0_5, u_X6_goBack_0_6, u_X6_goBack_0_7⟩ | exact ⟨u_X6_record_0_2, u_X6_record_0_5, u_X6_record_0_6, u_X6_record_0_7⟩
theorem so_keep {nn mm : Nat} {wv : Int32} : ∀ (d i : Nat) (a : Int32) (y : MoC), oA (l_X6_solve_18 nn mm wv d i a y).2 = oA y ∧ oI (l_X6_solve_18 nn mm wv d i a y).2 = oI y ∧ oX (l_X6_solve_18 nn mm wv d i a y).2 = oX y ∧ oL (l_X6_solve_18 nn mm wv d i a y).2 = oL y := by
  intro d
  induction d with
  | zero => intro i a y; exact ⟨rfl, rfl, rfl, rfl⟩
  | succ d ih =>
    intro i a y
    rw [l_X6_solve_18]
    split
    · exact e_keep
    · split
      · exact e_keep
      · have := ih (i + 1) (f_X6_makeStep y nn mm (tn (oR y 3))).1 (f_X6_makeStep y nn mm (tn (oR y 3))).2
        rw [u_X6_makeStep_0_2, u_X6_makeStep_0_5, u_X6_makeStep_0_6, u_X6_makeStep_0_7] at this
        exact this
theorem so_keep0 {y : MoC} {nn mm kk : Nat} : oA (f_X6_solve y nn mm kk).2 = oA y ∧ oI (f_X6_solve y nn mm kk).2 = oI y ∧ oX (f_X6_solve y nn mm kk).2 = oX y ∧ oL (f_X6_solve y nn mm kk).2 = oL y := by
  have := so_keep (nn := nn) (mm := mm) (wv := oR (f_X6_remember y) 3) 42 0 (f_X6_makeStep (f_X6_remember y) nn mm (tn (oR (f_X6_remember y) 3))).1 (f_X6_makeStep (f_X6_remember y) nn mm (tn (oR (f_X6_remember y) 3))).2
  rw [u_X6_makeStep_0_2, u_X6_makeStep_0_5, u_X6_makeStep_0_6, u_X6_makeStep_0_7, u_X6_remember_0_2, u_X6_remember_0_5, u_X6_remember_0_6, u_X6_remember_0_7] at this
  exact this
theorem u_X6_solve_0_2 {y : MoC} {nn mm kk : Nat} : oA (f_X6_solve y nn mm kk).2 = oA y := so_keep0.1
theorem u_X6_solve_0_5 {y : MoC} {nn mm kk : Nat} : oI (f_X6_solve y nn mm kk).2 = oI y := so_keep0.2.1
theorem u_X6_solve_0_6 {y : MoC} {nn mm kk : Nat} : oX (f_X6_solve y nn mm kk).2 = oX y := so_keep0.2.2.1
theorem u_X6_solve_0_7 {y : MoC} {nn mm kk : Nat} : oL (f_X6_solve y nn mm kk).2 = oL y := so_keep0.2.2.2
theorem dl_keep0 {y : MoC} {nn mm kk : Nat} : oA (f_X6_dropLoose y nn mm kk).2 = oA y ∧ oI (f_X6_dropLoose y nn mm kk).2 = oI y ∧ oX (f_X6_dropLoose y nn mm kk).2 = oX y ∧ oL (f_X6_dropLoose y nn mm kk).2 = oL y := by
  unfold f_X6_dropLoose
  split
  · exact ⟨rfl, rfl, rfl, rfl⟩
  · split
    · exact ⟨rfl, rfl, rfl, rfl⟩
    · obtain ⟨-, e2, -, e4, e5, e6⟩ := dl_keep (nn := nn) (mm := mm) (P := f_X6_masterPlan y nn mm kk) (A := f_X6_guess y nn mm kk (f_X6_masterPlan y nn mm kk) - f_X6_prices y nn mm kk (f_X6_masterPlan y nn mm kk)) kk (f_X6_begin y)
      exact ⟨e2.trans u_X6_begin_0_2, e4.trans u_X6_begin_0_5, e5.trans u_X6_begin_0_6, e6.trans u_X6_begin_0_7⟩
theorem u_X6_dropLoose_0_2 {y : MoC} {nn mm kk : Nat} : oA (f_X6_dropLoose y nn mm kk).2 = oA y := dl_keep0.1
theorem u_X6_dropLoose_0_5 {y : MoC} {nn mm kk : Nat} : oI (f_X6_dropLoose y nn mm kk).2 = oI y := dl_keep0.2.1
theorem u_X6_dropLoose_0_6 {y : MoC} {nn mm kk : Nat} : oX (f_X6_dropLoose y nn mm kk).2 = oX y := dl_keep0.2.2.1
theorem u_X6_dropLoose_0_7 {y : MoC} {nn mm kk : Nat} : oL (f_X6_dropLoose y nn mm kk).2 = oL y := dl_keep0.2.2.2
set_option maxHeartbeats 4000000 in
set_option maxRecDepth 100000 in
theorem law_solve {p : Program} {l : Launch} {e : Env} {s : State} {m : MethodId} {below : List Frame} {meth : Method} {c : Code} {dd : va_G} {t : CL4} {z b L i : Nat} {xs : Nat → Int32} (hL : L ≤ 2048) (X : WX p s m #[Value.ref b] c cL_law 4 RL dd t) (hX : va_X b L xs s s.heap) (hbl : b < s.heap.size) (hbA : ¬ dm 412 (adz z) s.heap.size b) (hi : i + 4 ≤ L) (G : LGoal p l e s m below meth c dd t z b i 798) : LGoal p l e s m below meth c dd t z b i 402 := by
  intro w so x u ho sg hs z1 x1 u1 z2 x2 u2 tx nu y V H locs ls hrel hp hP hS hl
  obtain ⟨p_w, p_so, p_x, p_u, p_ho, p_sg, p_hs, p_z1, p_x1, p_u1, p_z2, p_x2, p_u2, p_tx, p_nu, p_y⟩ := hp
  obtain ⟨⟨nn, mm, kk, hrs⟩, hrh, hrq, hrt⟩ := id hrel
  have hx := X.1.1
  have hb := X.1.2.1
  have hro := hrs.row
  have hn := hrs.1.1.1
  have hm := hrs.1.1.2.1
  have hst := hrh.2.1
  have htl := hrt.2.1
  have hsg := hrh.2.2.1
  refine lv_aload_n hx hb dL_law_402 rfl (lv_at hl 2 rfl) ?_
  refine r_callM (As := []) (rest := []) (ci := 5) X hP hS (c_X5_solve inj_z p_w p_so p_x p_u p_ho p_sg p_hs p_z1 p_x1 p_u1 p_nu  hsg) o_X5_solve rfl p_w.lt p_w.ob m442 ⟨rfl, rfl⟩ ⟨Nat.le_of_ble_eq_true rfl, Nat.le_of_ble_eq_true rfl⟩ rfl hl.1 rfl (Nat.le_of_ble_eq_true rfl) ⟨Nat.le_of_ble_eq_true rfl, Nat.le_of_ble_eq_true rfl⟩ dL_law_403 (fun r V1 H1 locs1 hq hP hS => ?_)
  obtain ⟨hr, p_so, p_x, p_u, p_ho, p_sg, p_hs, p_z1, p_x1, p_u1, p_nu, h2⟩ := hq
  subst hr
  have p_w := p_w.keep (V1 := V1) (fun k h8 h9 => h2 k (by omega))
  have p_z2 := p_z2.keep (V1 := V1) (fun k h8 h9 => h2 k (by omega))
  have p_x2 := p_x2.keep (V1 := V1) (fun k h8 h9 => h2 k (by omega))
  have p_u2 := p_u2.keep (V1 := V1) (fun k h8 h9 => h2 k (by omega))
  have p_tx := p_tx.keep (V1 := V1) (fun k h8 h9 => h2 k (by omega))
  have p_y := p_y.keep (V1 := V1) (fun k h8 h9 => h2 k (by omega))
  refine lv_aload_n hx hb dL_law_406 rfl (lv_at hl 1 rfl) ?_
  refine r_callM (As := []) (rest := [.int ((f_X5_solve w so x u ho sg hs z1 x1 u1 nu ).1)]) (ci := 6) X hP hS (c_X6_solve (nn := nn) (mm := mm) (kk := kk) inj_z p_y  hro.1 hro.2.1 hro.2.2.1 hn hm hro.2.2.2.1 hst hro.2.2.2.2.1 hro.2.2.2.2.2) o_X6_solve rfl p_y.lt p_y.ob m451 ⟨rfl, rfl⟩ ⟨Nat.le_of_ble_eq_true rfl, Nat.le_of_ble_eq_true rfl⟩ rfl hl.1 rfl (Nat.le_of_ble_eq_true rfl) ⟨Nat.le_of_ble_eq_true rfl, Nat.le_of_ble_eq_true rfl⟩ dL_law_407 (fun r V2 H2 locs2 hq hP hS => ?_)
  obtain ⟨hr, p_y, h2⟩ := hq
  subst hr
  have p_w := p_w.keep (V1 := V2) (fun k h8 h9 => h2 k (by omega))
  have p_so := p_so.keep (V1 := V2) (fun k h8 h9 => h2 k (by omega))
  have p_x := p_x.keep (V1 := V2) (fun k h8 h9 => h2 k (by omega))
  have p_u := p_u.keep (V1 := V2) (fun k h8 h9 => h2 k (by omega))
  have p_ho := p_ho.keep (V1 := V2) (fun k h8 h9 => h2 k (by omega))
  have p_sg := p_sg.keep (V1 := V2) (fun k h8 h9 => h2 k (by omega))
  have p_hs := p_hs.keep (V1 := V2) (fun k h8 h9 => h2 k (by omega))
  have p_z1 := p_z1.keep (V1 := V2) (fun k h8 h9 => h2 k (by omega))
  have p_x1 := p_x1.keep (V1 := V2) (fun k h8 h9 => h2 k (by omega))
  have p_u1 := p_u1.keep (V1 := V2) (fun k h8 h9 => h2 k (by omega))
  have p_z2 := p_z2.keep (V1 := V2) (fun k h8 h9 => h2 k (by omega))
  have p_x2 := p_x2.keep (V1 := V2) (fun k h8 h9 => h2 k (by omega))
  have p_u2 := p_u2.keep (V1 := V2) (fun k h8 h9 => h2 k (by omega))
  have p_tx := p_tx.keep (V1 := V2) (fun k h8 h9 => h2 k (by omega))
  have p_nu := p_nu.keep (V1 := V2) (fun k h8 h9 => h2 k (by omega))
  have hw := w_solve (w := w) (z1 := z1) (x1 := x1) (u1 := u1) (nu := nu) hrs hrh 
  refine lv_icmp_eq (tgt := 798) hx hb dL_law_410 (by decide) (fun _ => ?_) (fun q => absurd hw.1 q)
  have hR : Rel (w) ((f_X5_solve w so x u ho sg hs z1 x1 u1 nu ).2.1) ((f_X5_solve w so x u ho sg hs z1 x1 u1 nu ).2.2.1) ((f_X5_solve w so x u ho sg hs z1 x1 u1 nu ).2.2.2.1) ((f_X5_solve w so x u ho sg hs z1 x1 u1 nu ).2.2.2.2.1) ((f_X5_solve w so x u ho sg hs z1 x1 u1 nu ).2.2.2.2.2.1) ((f_X5_solve w so x u ho sg hs z1 x1 u1 nu ).2.2.2.2.2.2.1) (z2) (x2) (u2) (tx) ((f_X6_solve y nn mm kk ).2) := ⟨hw.2.1, hw.2.2, (by rw [u_X6_solve_0_5, u_X6_solve_0_2]; exact hrq), (by rw [u_X6_solve_0_7, u_X6_solve_0_6]; exact hrt)⟩
  exact G (w) ((f_X5_solve w so x u ho sg hs z1 x1 u1 nu ).2.1) ((f_X5_solve w so x u ho sg hs z1 x1 u1 nu ).2.2.1) ((f_X5_solve w so x u ho sg hs z1 x1 u1 nu ).2.2.2.1) ((f_X5_solve w so x u ho sg hs z1 x1 u1 nu ).2.2.2.2.1) ((f_X5_solve w so x u ho sg hs z1 x1 u1 nu ).2.2.2.2.2.1) ((f_X5_solve w so x u ho sg hs z1 x1 u1 nu ).2.2.2.2.2.2.1) ((f_X5_solve w so x u ho sg hs z1 x1 u1 nu ).2.2.2.2.2.2.2.1) ((f_X5_solve w so x u ho sg hs z1 x1 u1 nu ).2.2.2.2.2.2.2.2.1) ((f_X5_solve w so x u ho sg hs z1 x1 u1 nu ).2.2.2.2.2.2.2.2.2.1) (z2) (x2) (u2) (tx) ((f_X5_solve w so x u ho sg hs z1 x1 u1 nu ).2.2.2.2.2.2.2.2.2.2) ((f_X6_solve y nn mm kk ).2) V2 H2 locs2 ls hR ⟨p_w, p_so, p_x, p_u, p_ho, p_sg, p_hs, p_z1, p_x1, p_u1, p_z2, p_x2, p_u2, p_tx, p_nu, p_y⟩ hP hS hl
set_option maxHeartbeats 4000000 in
set_option maxRecDepth 100000 in
theorem law_dropLoose {p : Program} {l : Launch} {e : Env} {s : State} {m : MethodId} {below : List Frame} {meth : Method} {c : Code} {dd : va_G} {t : CL4} {z b L i : Nat} {xs : Nat → Int32} (hL : L ≤ 2048) (X : WX p s m #[Value.ref b] c cL_law 4 RL dd t) (hX : va_X b L xs s s.heap) (hbl : b < s.heap.size) (hbA : ¬ dm 412 (adz z) s.heap.size b) (hi : i + 4 ≤ L) (G : LGoal p l e s m below meth c dd t z b i 798) : LGoal p l e s m below meth c dd t z b i 451 := by
  intro w so x u ho sg hs z1 x1 u1 z2 x2 u2 tx nu y V H locs ls hrel hp hP hS hl
  obtain ⟨p_w, p_so, p_x, p_u, p_ho, p_sg, p_hs, p_z1, p_x1, p_u1, p_z2, p_x2, p_u2, p_tx, p_nu, p_y⟩ := hp
  obtain ⟨⟨nn, mm, kk, hrs⟩, hrh, hrq, hrt⟩ := id hrel
  have hx := X.1.1
  have hb := X.1.2.1
  have hro := hrs.row
  have hn := hrs.1.1.1
  have hm := hrs.1.1.2.1
  have hst := hrh.2.1
  have htl := hrt.2.1
  have hsg := hrh.2.2.1
  refine lv_aload_n hx hb dL_law_451 rfl (lv_at hl 2 rfl) ?_
  refine r_callM (As := []) (rest := []) (ci := 5) X hP hS (c_X5_dropLoose inj_z p_w p_so p_x p_u p_ho p_sg p_hs  hsg) o_X5_dropLoose rfl p_w.lt p_w.ob m519 ⟨rfl, rfl⟩ ⟨Nat.le_of_ble_eq_true rfl, Nat.le_of_ble_eq_true rfl⟩ rfl hl.1 rfl (Nat.le_of_ble_eq_true rfl) ⟨Nat.le_of_ble_eq_true rfl, Nat.le_of_ble_eq_true rfl⟩ dL_law_452 (fun r V1 H1 locs1 hq hP hS => ?_)
  obtain ⟨hr, p_so, p_x, p_u, p_ho, p_sg, p_hs, h2⟩ := hq
  subst hr
  have p_w := p_w.keep (V1 := V1) (fun k h8 h9 => h2 k (by omega))
  have p_z1 := p_z1.keep (V1 := V1) (fun k h8 h9 => h2 k (by omega))
  have p_x1 := p_x1.keep (V1 := V1) (fun k h8 h9 => h2 k (by omega))
  have p_u1 := p_u1.keep (V1 := V1) (fun k h8 h9 => h2 k (by omega))
  have p_z2 := p_z2.keep (V1 := V1) (fun k h8 h9 => h2 k (by omega))
  have p_x2 := p_x2.keep (V1 := V1) (fun k h8 h9 => h2 k (by omega))
  have p_u2 := p_u2.keep (V1 := V1) (fun k h8 h9 => h2 k (by omega))
  have p_tx := p_tx.keep (V1 := V1) (fun k h8 h9 => h2 k (by omega))
  have p_nu := p_nu.keep (V1 := V1) (fun k h8 h9 => h2 k (by omega))
  have p_y := p_y.keep (V1 := V1) (fun k h8 h9 => h2 k (by omega))
  refine lv_aload_n hx hb dL_law_455 rfl (lv_at hl 1 rfl) ?_
  refine r_callM (As := []) (rest := [.int ((f_X5_dropLoose w so x u ho sg hs ).1)]) (ci := 6) X hP hS (c_X6_dropLoose (nn := nn) (mm := mm) (kk := kk) inj_z p_y  hro.1 hro.2.1 hro.2.2.1 hn hm hro.2.2.2.1 hst hro.2.2.2.2.1 hro.2.2.2.2.2) o_X6_dropLoose rfl p_y.lt p_y.ob m537 ⟨rfl, rfl⟩ ⟨Nat.le_of_ble_eq_true rfl, Nat.le_of_ble_eq_true rfl⟩ rfl hl.1 rfl (Nat.le_of_ble_eq_true rfl) ⟨Nat.le_of_ble_eq_true rfl, Nat.le_of_ble_eq_true rfl⟩ dL_law_456 (fun r V2 H2 locs2 hq hP hS => ?_)
  obtain ⟨hr, p_y, h2⟩ := hq
  subst hr
  have p_w := p_w.keep (V1 := V2) (fun k h8 h9 => h2 k (by omega))
  have p_so := p_so.keep (V1 := V2) (fun k h8 h9 => h2 k (by omega))
  have p_x := p_x.keep (V1 := V2) (fun k h8 h9 => h2 k (by omega))
  have p_u := p_u.keep (V1 := V2) (fun k h8 h9 => h2 k (by omega))
  have p_ho := p_ho.keep (V1 := V2) (fun k h8 h9 => h2 k (by omega))
  have p_sg := p_sg.keep (V1 := V2) (fun k h8 h9 => h2 k (by omega))
  have p_hs := p_hs.keep (V1 := V2) (fun k h8 h9 => h2 k (by omega))
  have p_z1 := p_z1.keep (V1 := V2) (fun k h8 h9 => h2 k (by omega))
  have p_x1 := p_x1.keep (V1 := V2) (fun k h8 h9 => h2 k (by omega))
  have p_u1 := p_u1.keep (V1 := V2) (fun k h8 h9 => h2 k (by omega))
  have p_z2 := p_z2.keep (V1 := V2) (fun k h8 h9 => h2 k (by omega))
  have p_x2 := p_x2.keep (V1 := V2) (fun k h8 h9 => h2 k (by omega))
  have p_u2 := p_u2.keep (V1 := V2) (fun k h8 h9 => h2 k (by omega))
  have p_tx := p_tx.keep (V1 := V2) (fun k h8 h9 => h2 k (by omega))
  have p_nu := p_nu.keep (V1 := V2) (fun k h8 h9 => h2 k (by omega))
  have hw := w_dropLoose (w := w) hrs hrh 
  refine lv_icmp_eq (tgt := 798) hx hb dL_law_459 (by decide) (fun _ => ?_) (fun q => absurd hw.1 q)
  have hR : Rel (w) ((f_X5_dropLoose w so x u ho sg hs ).2.1) ((f_X5_dropLoose w so x u ho sg hs ).2.2.1) ((f_X5_dropLoose w so x u ho sg hs ).2.2.2.1) ((f_X5_dropLoose w so x u ho sg hs ).2.2.2.2.1) ((f_X5_dropLoose w so x u ho sg hs ).2.2.2.2.2.1) ((f_X5_dropLoose w so x u ho sg hs ).2.2.2.2.2.2) (z2) (x2) (u2) (tx) ((f_X6_dropLoose y nn mm kk ).2) := ⟨hw.2.1, hw.2.2, (by rw [u_X6_dropLoose_0_5, u_X6_dropLoose_0_2]; exact hrq), (by rw [u_X6_dropLoose_0_7, u_X6_dropLoose_0_6]; exact hrt)⟩
  exact G (w) ((f_X5_dropLoose w so x u ho sg hs ).2.1) ((f_X5_dropLoose w so x u ho sg hs ).2.2.1) ((f_X5_dropLoose w so x u ho sg hs ).2.2.2.1) ((f_X5_dropLoose w so x u ho sg hs ).2.2.2.2.1) ((f_X5_dropLoose w so x u ho sg hs ).2.2.2.2.2.1) ((f_X5_dropLoose w so x u ho sg hs ).2.2.2.2.2.2) (z1) (x1) (u1) (z2) (x2) (u2) (tx) (nu) ((f_X6_dropLoose y nn mm kk ).2) V2 H2 locs2 ls hR ⟨p_w, p_so, p_x, p_u, p_ho, p_sg, p_hs, p_z1, p_x1, p_u1, p_z2, p_x2, p_u2, p_tx, p_nu, p_y⟩ hP hS hl
set_option maxHeartbeats 4000000 in
set_option maxRecDepth 100000 in
theorem law_exclude {p : Program} {l : Launch} {e : Env} {s : State} {m : MethodId} {below : List Frame} {meth : Method} {c : Code} {dd : va_G} {t : CL4} {z b L i : Nat} {xs : Nat → Int32} (hL : L ≤ 2048) (X : WX p s m #[Value.ref b] c cL_law 4 RL dd t) (hX : va_X b L xs s s.heap) (hbl : b < s.heap.size) (hbA : ¬ dm 412 (adz z) s.heap.size b) (hi : i + 4 ≤ L) (G : LGoal p l e s m below meth c dd t z b i 798) : LGoal p l e s m below meth c dd t z b i 330 := by
  intro w so x u ho sg hs z1 x1 u1 z2 x2 u2 tx nu y V H locs ls hrel hp hP hS hl
  by_cases hz : xs (i + 3) = 0
  · obtain ⟨p_w, p_so, p_x, p_u, p_ho, p_sg, p_hs, p_z1, p_x1, p_u1, p_z2, p_x2, p_u2, p_tx, p_nu, p_y⟩ := hp
    obtain ⟨⟨nn, mm, kk, hrs⟩, hrh, hrq, hrt⟩ := id hrel
    have hx := X.1.1
    have hb := X.1.2.1
    have hro := hrs.row
    have hn := hrs.1.1.1
    have hm := hrs.1.1.2.1
    have hst := hrh.2.1
    have htl := hrt.2.1
    have hsg := hrh.2.2.1
    refine lv_aload_n hx hb dL_law_330 rfl (lv_at hl 2 rfl) ?_
    refine lv_aload_n hx hb dL_law_331 rfl (lv_at hl 3 rfl) ?_
    refine lv_iload_n hx hb dL_law_332 rfl (lv_at hl 0 rfl) ?_
    refine lv_iconst (v := nI 1) hx hb dL_law_333 (by decide) ?_
    refine q_iadd hx hb dL_law_334 ?_
    refine va_sld hx hb hX hbl hbA hS (vp_in_nI (show i + 1 < L by omega) (by omega)) dL_law_335 ?_
    refine q_val (congrArg xs (nI_clamp (show i + 1 < 2 ^ 31 by omega))) ?_
    refine lv_aload_n hx hb dL_law_336 rfl (lv_at hl 3 rfl) ?_
    refine lv_iload_n hx hb dL_law_337 rfl (lv_at hl 0 rfl) ?_
    refine lv_iconst (v := nI 2) hx hb dL_law_338 (by decide) ?_
    refine q_iadd hx hb dL_law_339 ?_
    refine va_sld hx hb hX hbl hbA hS (vp_in_nI (show i + 2 < L by omega) (by omega)) dL_law_340 ?_
    refine q_val (congrArg xs (nI_clamp (show i + 2 < 2 ^ 31 by omega))) ?_
    refine lv_aload_n hx hb dL_law_341 rfl (lv_at hl 3 rfl) ?_
    refine lv_iload_n hx hb dL_law_342 rfl (lv_at hl 0 rfl) ?_
    refine lv_iconst (v := nI 3) hx hb dL_law_343 (by decide) ?_
    refine q_iadd hx hb dL_law_344 ?_
    refine va_sld hx hb hX hbl hbA hS (vp_in_nI (show i + 3 < L by omega) (by omega)) dL_law_345 ?_
    refine q_val (congrArg xs (nI_clamp (show i + 3 < 2 ^ 31 by omega))) ?_
    refine lv_if_eq (tgt := 353) hx hb dL_law_346 (by decide) (fun _ => ?_) (fun q => absurd hz q)
    refine lv_iconst (v := nI 0) hx hb dL_law_353 (by decide) ?_
    refine r_callM (As := [.int (xs (i + 1)), .int (xs (i + 2)), .int (b01 false)]) (rest := []) (ci := 5) X hP hS (c_X5_exclude inj_z p_w p_so p_x p_u p_ho p_sg p_hs (xs (i + 1)) (xs (i + 2)) false hsg) o_X5_exclude rfl p_w.lt p_w.ob m235 ⟨rfl, rfl⟩ ⟨Nat.le_of_ble_eq_true rfl, Nat.le_of_ble_eq_true rfl⟩ rfl hl.1 rfl (Nat.le_of_ble_eq_true rfl) ⟨Nat.le_of_ble_eq_true rfl, Nat.le_of_ble_eq_true rfl⟩ dL_law_354 (fun r V1 H1 locs1 hq hP hS => ?_)
    obtain ⟨hr, p_so, p_x, p_u, p_ho, p_sg, p_hs, h2⟩ := hq
    subst hr
    have p_w := p_w.keep (V1 := V1) (fun k h8 h9 => h2 k (by omega))
    have p_z1 := p_z1.keep (V1 := V1) (fun k h8 h9 => h2 k (by omega))
    have p_x1 := p_x1.keep (V1 := V1) (fun k h8 h9 => h2 k (by omega))
    have p_u1 := p_u1.keep (V1 := V1) (fun k h8 h9 => h2 k (by omega))
    have p_z2 := p_z2.keep (V1 := V1) (fun k h8 h9 => h2 k (by omega))
    have p_x2 := p_x2.keep (V1 := V1) (fun k h8 h9 => h2 k (by omega))
    have p_u2 := p_u2.keep (V1 := V1) (fun k h8 h9 => h2 k (by omega))
    have p_tx := p_tx.keep (V1 := V1) (fun k h8 h9 => h2 k (by omega))
    have p_nu := p_nu.keep (V1 := V1) (fun k h8 h9 => h2 k (by omega))
    have p_y := p_y.keep (V1 := V1) (fun k h8 h9 => h2 k (by omega))
    refine lv_aload_n hx hb dL_law_357 rfl (lv_at hl 1 rfl) ?_
    refine lv_aload_n hx hb dL_law_358 rfl (lv_at hl 3 rfl) ?_
    refine lv_iload_n hx hb dL_law_359 rfl (lv_at hl 0 rfl) ?_
    refine lv_iconst (v := nI 1) hx hb dL_law_360 (by decide) ?_
    refine q_iadd hx hb dL_law_361 ?_
    refine va_sld hx hb hX hbl hbA hS (vp_in_nI (show i + 1 < L by omega) (by omega)) dL_law_362 ?_
    refine q_val (congrArg xs (nI_clamp (show i + 1 < 2 ^ 31 by omega))) ?_
    refine lv_aload_n hx hb dL_law_363 rfl (lv_at hl 3 rfl) ?_
    refine lv_iload_n hx hb dL_law_364 rfl (lv_at hl 0 rfl) ?_
    refine lv_iconst (v := nI 2) hx hb dL_law_365 (by decide) ?_
    refine q_iadd hx hb dL_law_366 ?_
    refine va_sld hx hb hX hbl hbA hS (vp_in_nI (show i + 2 < L by omega) (by omega)) dL_law_367 ?_
    refine q_val (congrArg xs (nI_clamp (show i + 2 < 2 ^ 31 by omega))) ?_
    refine lv_aload_n hx hb dL_law_368 rfl (lv_at hl 3 rfl) ?_
    refine lv_iload_n hx hb dL_law_369 rfl (lv_at hl 0 rfl) ?_
    refine lv_iconst (v := nI 3) hx hb dL_law_370 (by decide) ?_
    refine q_iadd hx hb dL_law_371 ?_
    refine va_sld hx hb hX hbl hbA hS (vp_in_nI (show i + 3 < L by omega) (by omega)) dL_law_372 ?_
    refine q_val (congrArg xs (nI_clamp (show i + 3 < 2 ^ 31 by omega))) ?_
    refine lv_if_eq (tgt := 380) hx hb dL_law_373 (by decide) (fun _ => ?_) (fun q => absurd hz q)
    refine lv_iconst (v := nI 0) hx hb dL_law_380 (by decide) ?_
    refine r_callM (As := [.int (xs (i + 1)), .int (xs (i + 2)), .int (b01 false)]) (rest := [.int ((f_X5_exclude w so x u ho sg hs (xs (i + 1)) (xs (i + 2)) false).1)]) (ci := 6) X hP hS (c_X6_exclude (nn := nn) (mm := mm) (kk := kk) inj_z p_y (xs (i + 1)) (xs (i + 2)) false hro.1 hro.2.1 hro.2.2.1 hn hm hro.2.2.2.1 hst) o_X6_exclude rfl p_y.lt p_y.ob m257 ⟨rfl, rfl⟩ ⟨Nat.le_of_ble_eq_true rfl, Nat.le_of_ble_eq_true rfl⟩ rfl hl.1 rfl (Nat.le_of_ble_eq_true rfl) ⟨Nat.le_of_ble_eq_true rfl, Nat.le_of_ble_eq_true rfl⟩ dL_law_381 (fun r V2 H2 locs2 hq hP hS => ?_)
    obtain ⟨hr, p_y, h2⟩ := hq
    subst hr
    have p_w := p_w.keep (V1 := V2) (fun k h8 h9 => h2 k (by omega))
    have p_so := p_so.keep (V1 := V2) (fun k h8 h9 => h2 k (by omega))
    have p_x := p_x.keep (V1 := V2) (fun k h8 h9 => h2 k (by omega))
    have p_u := p_u.keep (V1 := V2) (fun k h8 h9 => h2 k (by omega))
    have p_ho := p_ho.keep (V1 := V2) (fun k h8 h9 => h2 k (by omega))
    have p_sg := p_sg.keep (V1 := V2) (fun k h8 h9 => h2 k (by omega))
    have p_hs := p_hs.keep (V1 := V2) (fun k h8 h9 => h2 k (by omega))
    have p_z1 := p_z1.keep (V1 := V2) (fun k h8 h9 => h2 k (by omega))
    have p_x1 := p_x1.keep (V1 := V2) (fun k h8 h9 => h2 k (by omega))
    have p_u1 := p_u1.keep (V1 := V2) (fun k h8 h9 => h2 k (by omega))
    have p_z2 := p_z2.keep (V1 := V2) (fun k h8 h9 => h2 k (by omega))
    have p_x2 := p_x2.keep (V1 := V2) (fun k h8 h9 => h2 k (by omega))
    have p_u2 := p_u2.keep (V1 := V2) (fun k h8 h9 => h2 k (by omega))
    have p_tx := p_tx.keep (V1 := V2) (fun k h8 h9 => h2 k (by omega))
    have p_nu := p_nu.keep (V1 := V2) (fun k h8 h9 => h2 k (by omega))
    have hw := w_exclude (w := w) hrs hrh (xs (i + 1)) (xs (i + 2)) false
    refine lv_icmp_eq (tgt := 798) hx hb dL_law_384 (by decide) (fun _ => ?_) (fun q => absurd hw.1 q)
    have hR : Rel (w) ((f_X5_exclude w so x u ho sg hs (xs (i + 1)) (xs (i + 2)) false).2.1) ((f_X5_exclude w so x u ho sg hs (xs (i + 1)) (xs (i + 2)) false).2.2.1) ((f_X5_exclude w so x u ho sg hs (xs (i + 1)) (xs (i + 2)) false).2.2.2.1) ((f_X5_exclude w so x u ho sg hs (xs (i + 1)) (xs (i + 2)) false).2.2.2.2.1) ((f_X5_exclude w so x u ho sg hs (xs (i + 1)) (xs (i + 2)) false).2.2.2.2.2.1) ((f_X5_exclude w so x u ho sg hs (xs (i + 1)) (xs (i + 2)) false).2.2.2.2.2.2) (z2) (x2) (u2) (tx) ((f_X6_exclude y nn mm kk (xs (i + 1)) (xs (i + 2)) false).2) := ⟨hw.2.1, hw.2.2, (by rw [u_X6_exclude_0_5, u_X6_exclude_0_2]; exact hrq), (by rw [u_X6_exclude_0_7, u_X6_exclude_0_6]; exact hrt)⟩
    exact G (w) ((f_X5_exclude w so x u ho sg hs (xs (i + 1)) (xs (i + 2)) false).2.1) ((f_X5_exclude w so x u ho sg hs (xs (i + 1)) (xs (i + 2)) false).2.2.1) ((f_X5_exclude w so x u ho sg hs (xs (i + 1)) (xs (i + 2)) false).2.2.2.1) ((f_X5_exclude w so x u ho sg hs (xs (i + 1)) (xs (i + 2)) false).2.2.2.2.1) ((f_X5_exclude w so x u ho sg hs (xs (i + 1)) (xs (i + 2)) false).2.2.2.2.2.1) ((f_X5_exclude w so x u ho sg hs (xs (i + 1)) (xs (i + 2)) false).2.2.2.2.2.2) (z1) (x1) (u1) (z2) (x2) (u2) (tx) (nu) ((f_X6_exclude y nn mm kk (xs (i + 1)) (xs (i + 2)) false).2) V2 H2 locs2 ls hR ⟨p_w, p_so, p_x, p_u, p_ho, p_sg, p_hs, p_z1, p_x1, p_u1, p_z2, p_x2, p_u2, p_tx, p_nu, p_y⟩ hP hS hl
  · obtain ⟨p_w, p_so, p_x, p_u, p_ho, p_sg, p_hs, p_z1, p_x1, p_u1, p_z2, p_x2, p_u2, p_tx, p_nu, p_y⟩ := hp
    obtain ⟨⟨nn, mm, kk, hrs⟩, hrh, hrq, hrt⟩ := id hrel
    have hx := X.1.1
    have hb := X.1.2.1
    have hro := hrs.row
    have hn := hrs.1.1.1
    have hm := hrs.1.1.2.1
    have hst := hrh.2.1
    have htl := hrt.2.1
    have hsg := hrh.2.2.1
    refine lv_aload_n hx hb dL_law_330 rfl (lv_at hl 2 rfl) ?_
    refine lv_aload_n hx hb dL_law_331 rfl (lv_at hl 3 rfl) ?_
    refine lv_iload_n hx hb dL_law_332 rfl (lv_at hl 0 rfl) ?_
    refine lv_iconst (v := nI 1) hx hb dL_law_333 (by decide) ?_
    refine q_iadd hx hb dL_law_334 ?_
    refine va_sld hx hb hX hbl hbA hS (vp_in_nI (show i + 1 < L by omega) (by omega)) dL_law_335 ?_
    refine q_val (congrArg xs (nI_clamp (show i + 1 < 2 ^ 31 by omega))) ?_
    refine lv_aload_n hx hb dL_law_336 rfl (lv_at hl 3 rfl) ?_
    refine lv_iload_n hx hb dL_law_337 rfl (lv_at hl 0 rfl) ?_
    refine lv_iconst (v := nI 2) hx hb dL_law_338 (by decide) ?_
    refine q_iadd hx hb dL_law_339 ?_
    refine va_sld hx hb hX hbl hbA hS (vp_in_nI (show i + 2 < L by omega) (by omega)) dL_law_340 ?_
    refine q_val (congrArg xs (nI_clamp (show i + 2 < 2 ^ 31 by omega))) ?_
    refine lv_aload_n hx hb dL_law_341 rfl (lv_at hl 3 rfl) ?_
    refine lv_iload_n hx hb dL_law_342 rfl (lv_at hl 0 rfl) ?_
    refine lv_iconst (v := nI 3) hx hb dL_law_343 (by decide) ?_
    refine q_iadd hx hb dL_law_344 ?_
    refine va_sld hx hb hX hbl hbA hS (vp_in_nI (show i + 3 < L by omega) (by omega)) dL_law_345 ?_
    refine q_val (congrArg xs (nI_clamp (show i + 3 < 2 ^ 31 by omega))) ?_
    refine lv_if_eq (tgt := 353) hx hb dL_law_346 (by decide) (fun q => absurd q hz) (fun _ => ?_)
    refine lv_iconst (v := nI 1) hx hb dL_law_349 (by decide) ?_
    refine lv_goto (tgt := 354) hx hb dL_law_350 (by decide) ?_
    refine r_callM (As := [.int (xs (i + 1)), .int (xs (i + 2)), .int (b01 true)]) (rest := []) (ci := 5) X hP hS (c_X5_exclude inj_z p_w p_so p_x p_u p_ho p_sg p_hs (xs (i + 1)) (xs (i + 2)) true hsg) o_X5_exclude rfl p_w.lt p_w.ob m235 ⟨rfl, rfl⟩ ⟨Nat.le_of_ble_eq_true rfl, Nat.le_of_ble_eq_true rfl⟩ rfl hl.1 rfl (Nat.le_of_ble_eq_true rfl) ⟨Nat.le_of_ble_eq_true rfl, Nat.le_of_ble_eq_true rfl⟩ dL_law_354 (fun r V1 H1 locs1 hq hP hS => ?_)
    obtain ⟨hr, p_so, p_x, p_u, p_ho, p_sg, p_hs, h2⟩ := hq
    subst hr
    have p_w := p_w.keep (V1 := V1) (fun k h8 h9 => h2 k (by omega))
    have p_z1 := p_z1.keep (V1 := V1) (fun k h8 h9 => h2 k (by omega))
    have p_x1 := p_x1.keep (V1 := V1) (fun k h8 h9 => h2 k (by omega))
    have p_u1 := p_u1.keep (V1 := V1) (fun k h8 h9 => h2 k (by omega))
    have p_z2 := p_z2.keep (V1 := V1) (fun k h8 h9 => h2 k (by omega))
    have p_x2 := p_x2.keep (V1 := V1) (fun k h8 h9 => h2 k (by omega))
    have p_u2 := p_u2.keep (V1 := V1) (fun k h8 h9 => h2 k (by omega))
    have p_tx := p_tx.keep (V1 := V1) (fun k h8 h9 => h2 k (by omega))
    have p_nu := p_nu.keep (V1 := V1) (fun k h8 h9 => h2 k (by omega))
    have p_y := p_y.keep (V1 := V1) (fun k h8 h9 => h2 k (by omega))
    refine lv_aload_n hx hb dL_law_357 rfl (lv_at hl 1 rfl) ?_
    refine lv_aload_n hx hb dL_law_358 rfl (lv_at hl 3 rfl) ?_
    refine lv_iload_n hx hb dL_law_359 rfl (lv_at hl 0 rfl) ?_
    refine lv_iconst (v := nI 1) hx hb dL_law_360 (by decide) ?_
    refine q_iadd hx hb dL_law_361 ?_
    refine va_sld hx hb hX hbl hbA hS (vp_in_nI (show i + 1 < L by omega) (by omega)) dL_law_362 ?_
    refine q_val (congrArg xs (nI_clamp (show i + 1 < 2 ^ 31 by omega))) ?_
    refine lv_aload_n hx hb dL_law_363 rfl (lv_at hl 3 rfl) ?_
    refine lv_iload_n hx hb dL_law_364 rfl (lv_at hl 0 rfl) ?_
    refine lv_iconst (v := nI 2) hx hb dL_law_365 (by decide) ?_
    refine q_iadd hx hb dL_law_366 ?_
    refine va_sld hx hb hX hbl hbA hS (vp_in_nI (show i + 2 < L by omega) (by omega)) dL_law_367 ?_
    refine q_val (congrArg xs (nI_clamp (show i + 2 < 2 ^ 31 by omega))) ?_
    refine lv_aload_n hx hb dL_law_368 rfl (lv_at hl 3 rfl) ?_
    refine lv_iload_n hx hb dL_law_369 rfl (lv_at hl 0 rfl) ?_
    refine lv_iconst (v := nI 3) hx hb dL_law_370 (by decide) ?_
    refine q_iadd hx hb dL_law_371 ?_
    refine va_sld hx hb hX hbl hbA hS (vp_in_nI (show i + 3 < L by omega) (by omega)) dL_law_372 ?_
    refine q_val (congrArg xs (nI_clamp (show i + 3 < 2 ^ 31 by omega))) ?_
    refine lv_if_eq (tgt := 380) hx hb dL_law_373 (by decide) (fun q => absurd q hz) (fun _ => ?_)
    refine lv_iconst (v := nI 1) hx hb dL_law_376 (by decide) ?_
    refine lv_goto (tgt := 381) hx hb dL_law_377 (by decide) ?_
    refine r_callM (As := [.int (xs (i + 1)), .int (xs (i + 2)), .int (b01 true)]) (rest := [.int ((f_X5_exclude w so x u ho sg hs (xs (i + 1)) (xs (i + 2)) true).1)]) (ci := 6) X hP hS (c_X6_exclude (nn := nn) (mm := mm) (kk := kk) inj_z p_y (xs (i + 1)) (xs (i + 2)) true hro.1 hro.2.1 hro.2.2.1 hn hm hro.2.2.2.1 hst) o_X6_exclude rfl p_y.lt p_y.ob m257 ⟨rfl, rfl⟩ ⟨Nat.le_of_ble_eq_true rfl, Nat.le_of_ble_eq_true rfl⟩ rfl hl.1 rfl (Nat.le_of_ble_eq_true rfl) ⟨Nat.le_of_ble_eq_true rfl, Nat.le_of_ble_eq_true rfl⟩ dL_law_381 (fun r V2 H2 locs2 hq hP hS => ?_)
    obtain ⟨hr, p_y, h2⟩ := hq
    subst hr
    have p_w := p_w.keep (V1 := V2) (fun k h8 h9 => h2 k (by omega))
    have p_so := p_so.keep (V1 := V2) (fun k h8 h9 => h2 k (by omega))
    have p_x := p_x.keep (V1 := V2) (fun k h8 h9 => h2 k (by omega))
    have p_u := p_u.keep (V1 := V2) (fun k h8 h9 => h2 k (by omega))
    have p_ho := p_ho.keep (V1 := V2) (fun k h8 h9 => h2 k (by omega))
    have p_sg := p_sg.keep (V1 := V2) (fun k h8 h9 => h2 k (by omega))
    have p_hs := p_hs.keep (V1 := V2) (fun k h8 h9 => h2 k (by omega))
    have p_z1 := p_z1.keep (V1 := V2) (fun k h8 h9 => h2 k (by omega))
    have p_x1 := p_x1.keep (V1 := V2) (fun k h8 h9 => h2 k (by omega))
    have p_u1 := p_u1.keep (V1 := V2) (fun k h8 h9 => h2 k (by omega))
    have p_z2 := p_z2.keep (V1 := V2) (fun k h8 h9 => h2 k (by omega))
    have p_x2 := p_x2.keep (V1 := V2) (fun k h8 h9 => h2 k (by omega))
    have p_u2 := p_u2.keep (V1 := V2) (fun k h8 h9 => h2 k (by omega))
    have p_tx := p_tx.keep (V1 := V2) (fun k h8 h9 => h2 k (by omega))
    have p_nu := p_nu.keep (V1 := V2) (fun k h8 h9 => h2 k (by omega))
    have hw := w_exclude (w := w) hrs hrh (xs (i + 1)) (xs (i + 2)) true
    refine lv_icmp_eq (tgt := 798) hx hb dL_law_384 (by decide) (fun _ => ?_) (fun q => absurd hw.1 q)
    have hR : Rel (w) ((f_X5_exclude w so x u ho sg hs (xs (i + 1)) (xs (i + 2)) true).2.1) ((f_X5_exclude w so x u ho sg hs (xs (i + 1)) (xs (i + 2)) true).2.2.1) ((f_X5_exclude w so x u ho sg hs (xs (i + 1)) (xs (i + 2)) true).2.2.2.1) ((f_X5_exclude w so x u ho sg hs (xs (i + 1)) (xs (i + 2)) true).2.2.2.2.1) ((f_X5_exclude w so x u ho sg hs (xs (i + 1)) (xs (i + 2)) true).2.2.2.2.2.1) ((f_X5_exclude w so x u ho sg hs (xs (i + 1)) (xs (i + 2)) true).2.2.2.2.2.2) (z2) (x2) (u2) (tx) ((f_X6_exclude y nn mm kk (xs (i + 1)) (xs (i + 2)) true).2) := ⟨hw.2.1, hw.2.2, (by rw [u_X6_exclude_0_5, u_X6_exclude_0_2]; exact hrq), (by rw [u_X6_exclude_0_7, u_X6_exclude_0_6]; exact hrt)⟩
    exact G (w) ((f_X5_exclude w so x u ho sg hs (xs (i + 1)) (xs (i + 2)) true).2.1) ((f_X5_exclude w so x u ho sg hs (xs (i + 1)) (xs (i + 2)) true).2.2.1) ((f_X5_exclude w so x u ho sg hs (xs (i + 1)) (xs (i + 2)) true).2.2.2.1) ((f_X5_exclude w so x u ho sg hs (xs (i + 1)) (xs (i + 2)) true).2.2.2.2.1) ((f_X5_exclude w so x u ho sg hs (xs (i + 1)) (xs (i + 2)) true).2.2.2.2.2.1) ((f_X5_exclude w so x u ho sg hs (xs (i + 1)) (xs (i + 2)) true).2.2.2.2.2.2) (z1) (x1) (u1) (z2) (x2) (u2) (tx) (nu) ((f_X6_exclude y nn mm kk (xs (i + 1)) (xs (i + 2)) true).2) V2 H2 locs2 ls hR ⟨p_w, p_so, p_x, p_u, p_ho, p_sg, p_hs, p_z1, p_x1, p_u1, p_z2, p_x2, p_u2, p_tx, p_nu, p_y⟩ hP hS hl
set_option maxHeartbeats 4000000 in
set_option maxRecDepth 100000 in
theorem law_loop {p : Program} {l : Launch} {e : Env} {s : State} {m : MethodId} {below : List Frame} {meth : Method} {c : Code} {dd : va_G} {t : CL4} {z b L : Nat} {xs : Nat → Int32} (hL : L ≤ 2048) (X : WX p s m #[Value.ref b] c cL_law 4 RL dd t) (hr : meth.sig.returnType = ret) (hlocks : meth.locks = false) (hX : va_X b L xs s s.heap) (hbl : b < s.heap.size) (hz : s.heap.size = z) : ∀ (n i : Nat), i ≤ L + 4 → L + 5 ≤ i + n → LGoal p l e s m below meth c dd t z b i 18 := by
  have hx := X.1.1
  have hb := X.1.2.1
  have hdm : ∀ q, dm 412 (adz z) s.heap.size q → s.heap.size ≤ q := by
    intro q hq
    rcases hq with ⟨k, _, rfl⟩ | h
    · rw [hz]; exact Nat.le_add_right z k
    · exact h
  have hbA : ¬ dm 412 (adz z) s.heap.size b := fun q => absurd (hdm b q) (by omega)
  intro n
  induction n with
  | zero => intro i h1 h2; omega
  | succ n ih =>
    intro i h1 h2 w so x u ho sg hs z1 x1 u1 z2 x2 u2 tx nu y V H locs ls hrel hp hP hS hl
    have t4 : (nI L - nI 4).toInt = (L : Int) - 4 := by
      have tl : (nI L).toInt = (L : Int) := nI_toInt (by omega)
      have t4' : (nI 4).toInt = 4 := by decide
      rw [i_sub (by rw [tl, t4']; omega) (by rw [tl, t4']; omega), tl, t4']
    have ti : (nI i).toInt = (i : Int) := nI_toInt (by omega)
    refine lv_iload_n hx hb dL_law_18 rfl (lv_at hl 0 rfl) ?_
    refine lv_aload_n hx hb dL_law_19 rfl (lv_at hl 3 rfl) ?_
    refine va_slen hx hb hX hbl hbA hS dL_law_20 ?_
    refine lv_iconst (v := nI 4) hx hb dL_law_21 (by decide) ?_
    refine lv_isub hx hb dL_law_22 ?_
    refine j_gt (tgt := 804) hx hb dL_law_23 (by decide) (fun c1 => ?_) (fun c1 => ?_)
    · refine lv_iconst (v := 1) hx hb dL_law_804 (by decide) ?_
      refine va_forget (fun q hq => hdm _ (hS.2.2 q hq)) ?_
      refine W.widen (k := 600000) (n := 7302250) (Nat.le_of_ble_eq_true rfl) (Nat.le_of_ble_eq_true rfl) ?_
      exact lw_ret hx hb hr hlocks dL_law_805
    · have hi : i + 4 ≤ L := by
        have c2 : ¬ (nI L - nI 4).toInt < (nI i).toInt := fun q => c1 (i_lt.mpr q)
        rw [t4, ti] at c2
        omega
      have G : LGoal p l e s m below meth c dd t z b i 798 := by
        intro w so x u ho sg hs z1 x1 u1 z2 x2 u2 tx nu y V H locs ls hrel hp hP hS hl
        refine lv_iinc (v := nI (i + 4)) (lv' := [(3, .int (nI (i + 4))), (2, .ref (adz z 405)), (1, .ref (adz z 0)), (0, .ref b)]) hx hb dL_law_798 hl (k := 0) rfl (nI_add i 4) (by decide) rfl (fun ls hl => ?_)
        refine lv_goto (tgt := 18) hx hb dL_law_801 (by decide) ?_
        exact ih (i + 4) (by omega) (by omega) w so x u ho sg hs z1 x1 u1 z2 x2 u2 tx nu y V H locs ls hrel hp hP hS hl
      refine lv_aload_n hx hb dL_law_26 rfl (lv_at hl 3 rfl) ?_
      refine lv_iload_n hx hb dL_law_27 rfl (lv_at hl 0 rfl) ?_
      refine va_sld hx hb hX hbl hbA hS (vp_in_nI (show i < L by omega) (by omega)) dL_law_28 ?_
      refine q_val (congrArg xs (nI_clamp (show i < 2 ^ 31 by omega))) ?_
      refine lv_bipush (v := nI 31) hx hb dL_law_29 (by decide) ?_
      refine lv_iand hx hb dL_law_31 ?_
      generalize xs i &&& nI 31 = v
      by_cases c100 : v = nI 0
      · refine lv_tableIn (tgt := 152) hx hb dL_law_32 (by rw [c100]; decide) (by rw [c100]; decide) (by rw [c100]; rfl) (by decide) ?_
        exact law_addSite hL X hX hbl hbA hi G w so x u ho sg hs z1 x1 u1 z2 x2 u2 tx nu y V H locs ls hrel hp hP hS hl
      by_cases c101 : v = nI 1
      · refine lv_tableIn (tgt := 175) hx hb dL_law_32 (by rw [c101]; decide) (by rw [c101]; decide) (by rw [c101]; rfl) (by decide) ?_
        exact law_addCustomer hL X hX hbl hbA hi G w so x u ho sg hs z1 x1 u1 z2 x2 u2 tx nu y V H locs ls hrel hp hP hS hl
      by_cases c102 : v = nI 2
      · refine lv_tableIn (tgt := 198) hx hb dL_law_32 (by rw [c102]; decide) (by rw [c102]; decide) (by rw [c102]; rfl) (by decide) ?_
        exact law_setPrice hL X hX hbl hbA hi G w so x u ho sg hs z1 x1 u1 z2 x2 u2 tx nu y V H locs ls hrel hp hP hS hl
      by_cases c103 : v = nI 3
      · refine lv_tableIn (tgt := 231) hx hb dL_law_32 (by rw [c103]; decide) (by rw [c103]; decide) (by rw [c103]; rfl) (by decide) ?_
        exact law_setDemand hL X hX hbl hbA hi G w so x u ho sg hs z1 x1 u1 z2 x2 u2 tx nu y V H locs ls hrel hp hP hS hl
      by_cases c104 : v = nI 4
      · refine lv_tableIn (tgt := 264) hx hb dL_law_32 (by rw [c104]; decide) (by rw [c104]; decide) (by rw [c104]; rfl) (by decide) ?_
        exact law_setRoute hL X hX hbl hbA hi G w so x u ho sg hs z1 x1 u1 z2 x2 u2 tx nu y V H locs ls hrel hp hP hS hl
      by_cases c105 : v = nI 5
      · refine lv_tableIn (tgt := 307) hx hb dL_law_32 (by rw [c105]; decide) (by rw [c105]; decide) (by rw [c105]; rfl) (by decide) ?_
        exact law_setMost hL X hX hbl hbA hi G w so x u ho sg hs z1 x1 u1 z2 x2 u2 tx nu y V H locs ls hrel hp hP hS hl
      by_cases c106 : v = nI 6
      · refine lv_tableIn (tgt := 330) hx hb dL_law_32 (by rw [c106]; decide) (by rw [c106]; decide) (by rw [c106]; rfl) (by decide) ?_
        exact law_exclude hL X hX hbl hbA hi G w so x u ho sg hs z1 x1 u1 z2 x2 u2 tx nu y V H locs ls hrel hp hP hS hl
      by_cases c107 : v = nI 7
      · refine lv_tableIn (tgt := 389) hx hb dL_law_32 (by rw [c107]; decide) (by rw [c107]; decide) (by rw [c107]; rfl) (by decide) ?_
        exact law_step hL X hX hbl hbA hi G w so x u ho sg hs z1 x1 u1 z2 x2 u2 tx nu y V H locs ls hrel hp hP hS hl
      by_cases c108 : v = nI 8
      · refine lv_tableIn (tgt := 402) hx hb dL_law_32 (by rw [c108]; decide) (by rw [c108]; decide) (by rw [c108]; rfl) (by decide) ?_
        exact law_solve hL X hX hbl hbA hi G w so x u ho sg hs z1 x1 u1 z2 x2 u2 tx nu y V H locs ls hrel hp hP hS hl
      by_cases c109 : v = nI 9
      · refine lv_tableIn (tgt := 415) hx hb dL_law_32 (by rw [c109]; decide) (by rw [c109]; decide) (by rw [c109]; rfl) (by decide) ?_
        exact law_readCut hL X hX hbl hbA hi G w so x u ho sg hs z1 x1 u1 z2 x2 u2 tx nu y V H locs ls hrel hp hP hS hl
      by_cases c110 : v = nI 10
      · refine lv_tableIn (tgt := 428) hx hb dL_law_32 (by rw [c110]; decide) (by rw [c110]; decide) (by rw [c110]; rfl) (by decide) ?_
        exact law_drop hL X hX hbl hbA hi G w so x u ho sg hs z1 x1 u1 z2 x2 u2 tx nu y V H locs ls hrel hp hP hS hl
      by_cases c111 : v = nI 11
      · refine lv_tableIn (tgt := 451) hx hb dL_law_32 (by rw [c111]; decide) (by rw [c111]; decide) (by rw [c111]; rfl) (by decide) ?_
        exact law_dropLoose hL X hX hbl hbA hi G w so x u ho sg hs z1 x1 u1 z2 x2 u2 tx nu y V H locs ls hrel hp hP hS hl
      by_cases c112 : v = nI 12
      · refine lv_tableIn (tgt := 464) hx hb dL_law_32 (by rw [c112]; decide) (by rw [c112]; decide) (by rw [c112]; rfl) (by decide) ?_
        exact law_type hL X hX hbl hbA hi G w so x u ho sg hs z1 x1 u1 z2 x2 u2 tx nu y V H locs ls hrel hp hP hS hl
      by_cases c113 : v = nI 13
      · refine lv_tableIn (tgt := 489) hx hb dL_law_32 (by rw [c113]; decide) (by rw [c113]; decide) (by rw [c113]; rfl) (by decide) ?_
        exact law_clearText hL X hX hbl hbA hi G w so x u ho sg hs z1 x1 u1 z2 x2 u2 tx nu y V H locs ls hrel hp hP hS hl
      by_cases c114 : v = nI 14
      · refine lv_tableIn (tgt := 502) hx hb dL_law_32 (by rw [c114]; decide) (by rw [c114]; decide) (by rw [c114]; rfl) (by decide) ?_
        exact law_undo hL X hX hbl hbA hi G w so x u ho sg hs z1 x1 u1 z2 x2 u2 tx nu y V H locs ls hrel hp hP hS hl
      by_cases c115 : v = nI 15
      · refine lv_tableIn (tgt := 515) hx hb dL_law_32 (by rw [c115]; decide) (by rw [c115]; decide) (by rw [c115]; rfl) (by decide) ?_
        exact law_keep hL X hX hbl hbA hi G w so x u ho sg hs z1 x1 u1 z2 x2 u2 tx nu y V H locs ls hrel hp hP hS hl
      by_cases c116 : v = nI 16
      · refine lv_tableIn (tgt := 528) hx hb dL_law_32 (by rw [c116]; decide) (by rw [c116]; decide) (by rw [c116]; rfl) (by decide) ?_
        exact law_restore hL X hX hbl hbA hi G w so x u ho sg hs z1 x1 u1 z2 x2 u2 tx nu y V H locs ls hrel hp hP hS hl
      by_cases c117 : v = nI 17
      · refine lv_tableIn (tgt := 541) hx hb dL_law_32 (by rw [c117]; decide) (by rw [c117]; decide) (by rw [c117]; rfl) (by decide) ?_
        exact law_judge hL X hX hbl hbA hi G w so x u ho sg hs z1 x1 u1 z2 x2 u2 tx nu y V H locs ls hrel hp hP hS hl
      by_cases c118 : v = nI 18
      · refine lv_tableIn (tgt := 564) hx hb dL_law_32 (by rw [c118]; decide) (by rw [c118]; decide) (by rw [c118]; rfl) (by decide) ?_
        exact law_plan hL X hX hbl hbA hi G w so x u ho sg hs z1 x1 u1 z2 x2 u2 tx nu y V H locs ls hrel hp hP hS hl
      by_cases c119 : v = nI 19
      · refine lv_tableIn (tgt := 597) hx hb dL_law_32 (by rw [c119]; decide) (by rw [c119]; decide) (by rw [c119]; rfl) (by decide) ?_
        exact law_serves hL X hX hbl hbA hi G w so x u ho sg hs z1 x1 u1 z2 x2 u2 tx nu y V H locs ls hrel hp hP hS hl
      by_cases c120 : v = nI 20
      · refine lv_tableIn (tgt := 630) hx hb dL_law_32 (by rw [c120]; decide) (by rw [c120]; decide) (by rw [c120]; rfl) (by decide) ?_
        exact law_cut hL X hX hbl hbA hi G w so x u ho sg hs z1 x1 u1 z2 x2 u2 tx nu y V H locs ls hrel hp hP hS hl
      by_cases c121 : v = nI 21
      · refine lv_tableIn (tgt := 663) hx hb dL_law_32 (by rw [c121]; decide) (by rw [c121]; decide) (by rw [c121]; rfl) (by decide) ?_
        exact law_weight hL X hX hbl hbA hi G w so x u ho sg hs z1 x1 u1 z2 x2 u2 tx nu y V H locs ls hrel hp hP hS hl
      by_cases c122 : v = nI 22
      · refine lv_tableIn (tgt := 696) hx hb dL_law_32 (by rw [c122]; decide) (by rw [c122]; decide) (by rw [c122]; rfl) (by decide) ?_
        exact law_value hL X hX hbl hbA hi G w so x u ho sg hs z1 x1 u1 z2 x2 u2 tx nu y V H locs ls hrel hp hP hS hl
      by_cases c123 : v = nI 23
      · refine lv_tableIn (tgt := 729) hx hb dL_law_32 (by rw [c123]; decide) (by rw [c123]; decide) (by rw [c123]; rfl) (by decide) ?_
        exact law_master hL X hX hbl hbA hi G w so x u ho sg hs z1 x1 u1 z2 x2 u2 tx nu y V H locs ls hrel hp hP hS hl
      by_cases c124 : v = nI 24
      · refine lv_tableIn (tgt := 752) hx hb dL_law_32 (by rw [c124]; decide) (by rw [c124]; decide) (by rw [c124]; rfl) (by decide) ?_
        exact law_byAll hL X hX hbl hbA hi G w so x u ho sg hs z1 x1 u1 z2 x2 u2 tx nu y V H locs ls hrel hp hP hS hl
      by_cases c125 : v = nI 25
      · refine lv_tableIn (tgt := 775) hx hb dL_law_32 (by rw [c125]; decide) (by rw [c125]; decide) (by rw [c125]; rfl) (by decide) ?_
        exact law_count hL X hX hbl hbA hi G w so x u ho sg hs z1 x1 u1 z2 x2 u2 tx nu y V H locs ls hrel hp hP hS hl
      refine lv_tableOut (tgt := 798) hx hb dL_law_32 (sw_out25 c100 c101 c102 c103 c104 c105 c106 c107 c108 c109 c110 c111 c112 c113 c114 c115 c116 c117 c118 c119 c120 c121 c122 c123 c124 c125) (by decide) ?_
      exact G w so x u ho sg hs z1 x1 u1 z2 x2 u2 tx nu y V H locs ls hrel hp hP hS hl
