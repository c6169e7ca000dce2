/-! ===== the cases of the law ===== -/
def LPx (t : CL4) (z : Nat) (V : Nat → va_E) (w : ZoC) (so : SoC) (x : PlC) (u : CuC) (ho : HoC) (sg : Nat → Nat) (hs : Nat → StC) (z1 : SoC) (x1 : PlC) (u1 : CuC) (z2 : SoC) (x2 : PlC) (u2 : CuC) (tx : TxC) (nu : Nat → Int32) (y : MoC) : Prop := ZoP 412 (adz z) V t 0 w ∧ SoP 412 (adz z) V t (0 + 1) so ∧ PlP 412 (adz z) V t (0 + 2) x ∧ CuP 412 (adz z) V t (0 + 14) u ∧ HoP 412 (adz z) V t (0 + 172) ho ∧ HaP 412 (adz z) V t (0 + 173) sg ∧ HsP 412 (adz z) V t (0 + 174) hs ∧ SoP 412 (adz z) V t (0 + 58) z1 ∧ PlP 412 (adz z) V t (0 + 59) x1 ∧ CuP 412 (adz z) V t (0 + 71) u1 ∧ SoP 412 (adz z) V t (0 + 115) z2 ∧ PlP 412 (adz z) V t (0 + 116) x2 ∧ CuP 412 (adz z) V t (0 + 128) u2 ∧ TxP 412 (adz z) V t (0 + 402) tx ∧ NuP 412 V t (0 + 404) nu ∧ MoP 412 (adz z) V t 405 y
def LGoal (p : Program) (l : Launch) (e : Env) (s : State) (m : MethodId) (below : List Frame) (meth : Method) (c : Code) (dd : va_G) (t : CL4) (z b i pc : Nat) : Prop := ∀ (w : ZoC) (so : SoC) (x : PlC) (u : CuC) (ho : HoC) (sg : Nat → Nat) (hs : Nat → StC) (z1 : SoC) (x1 : PlC) (u1 : CuC) (z2 : SoC) (x2 : PlC) (u2 : CuC) (tx : TxC) (nu : Nat → Int32) (y : MoC) (V : Nat → va_E) (H : Heap) (locs : List Loc) (ls : Array Slot), Rel w so x u ho sg hs z2 x2 u2 tx y → LPx t z V w so x u ho sg hs z1 x1 u1 z2 x2 u2 tx nu y → HP dd 412 (adz z) V H → va_S (dm 412 (adz z) s.heap.size) s.heap H locs → lv_has ls 4 [(3, .int (nI i)), (2, .ref (adz z 405)), (1, .ref (adz z 0)), (0, .ref b)] → W p l e room_1 s m #[Value.ref b] below meth c H locs 412 6769 (lw_Z below #[Value.ref b] s) (F0 m pc ls [])
set_option maxHeartbeats 4000000 in
set_option maxRecDepth 100000 in
theorem law_judge {p : Program} {l : Launch} {e : Env} {s : State} {m : MethodId} {below : List Frame} {meth : Method} {c : Code} {dd : va_G} {t : CL4} {z b L i : Nat} {xs : Nat → Int32} (hL : L ≤ 2048) (X : WX p s m #[Value.ref b] c cL_law 4 RL dd t) (hX : va_X b L xs s s.heap) (hbl : b < s.heap.size) (hbA : ¬ dm 412 (adz z) s.heap.size b) (hi : i + 4 ≤ L) (G : LGoal p l e s m below meth c dd t z b i 798) : LGoal p l e s m below meth c dd t z b i 541 := by
  intro w so x u ho sg hs z1 x1 u1 z2 x2 u2 tx nu y V H locs ls hrel hp hP hS hl
  obtain ⟨p_w, p_so, p_x, p_u, p_ho, p_sg, p_hs, p_z1, p_x1, p_u1, p_z2, p_x2, p_u2, p_tx, p_nu, p_y⟩ := hp
  obtain ⟨⟨nn, mm, kk, hrs⟩, hrh, hrq, hrt⟩ := id hrel
  have hx := X.1.1
  have hb := X.1.2.1
  have hro := hrs.row
  have hn := hrs.1.1.1
  have hm := hrs.1.1.2.1
  have hst := hrh.2.1
  have htl := hrt.2.1
  refine lv_aload_n hx hb dL_law_541 rfl (lv_at hl 2 rfl) ?_
  refine lv_aload_n hx hb dL_law_542 rfl (lv_at hl 3 rfl) ?_
  refine lv_iload_n hx hb dL_law_543 rfl (lv_at hl 0 rfl) ?_
  refine lv_iconst (v := nI 1) hx hb dL_law_544 (by decide) ?_
  refine q_iadd hx hb dL_law_545 ?_
  refine va_sld hx hb hX hbl hbA hS (vp_in_nI (show i + 1 < L by omega) (by omega)) dL_law_546 ?_
  refine q_val (congrArg xs (nI_clamp (show i + 1 < 2 ^ 31 by omega))) ?_
  refine r_call (As := [.int (xs (i + 1))]) (rest := []) (ci := 5) X hP (c_X5_judge p_w p_so p_x p_u (xs (i + 1))) o_X5_judge rfl p_w.lt p_w.ob m600 ⟨rfl, rfl⟩ ⟨Nat.le_of_ble_eq_true rfl, Nat.le_of_ble_eq_true rfl⟩ rfl hl.1 rfl (Nat.le_of_ble_eq_true rfl) ⟨Nat.le_of_ble_eq_true rfl, Nat.le_of_ble_eq_true rfl⟩ dL_law_547 ?_
  refine lv_aload_n hx hb dL_law_550 rfl (lv_at hl 1 rfl) ?_
  refine lv_aload_n hx hb dL_law_551 rfl (lv_at hl 3 rfl) ?_
  refine lv_iload_n hx hb dL_law_552 rfl (lv_at hl 0 rfl) ?_
  refine lv_iconst (v := nI 1) hx hb dL_law_553 (by decide) ?_
  refine q_iadd hx hb dL_law_554 ?_
  refine va_sld hx hb hX hbl hbA hS (vp_in_nI (show i + 1 < L by omega) (by omega)) dL_law_555 ?_
  refine q_val (congrArg xs (nI_clamp (show i + 1 < 2 ^ 31 by omega))) ?_
  refine r_call (As := [.int (xs (i + 1))]) (rest := [.int (f_X5_judge w so x u (xs (i + 1)))]) (ci := 6) X hP (c_X6_judge (nn := nn) (mm := mm) (kk := kk) p_y (xs (i + 1)) hro.1 hro.2.1 hro.2.2.1 hn hm hro.2.2.2.1) o_X6_judge rfl p_y.lt p_y.ob m618 ⟨rfl, rfl⟩ ⟨Nat.le_of_ble_eq_true rfl, Nat.le_of_ble_eq_true rfl⟩ rfl hl.1 rfl (Nat.le_of_ble_eq_true rfl) ⟨Nat.le_of_ble_eq_true rfl, Nat.le_of_ble_eq_true rfl⟩ dL_law_556 ?_
  refine lv_icmp_eq (tgt := 798) hx hb dL_law_559 (by decide) (fun _ => ?_) (fun q => absurd (e_judge hrs (xs (i + 1))) q)
  exact G w so x u ho sg hs z1 x1 u1 z2 x2 u2 tx nu y V H locs ls hrel ⟨p_w, p_so, p_x, p_u, p_ho, p_sg, p_hs, p_z1, p_x1, p_u1, p_z2, p_x2, p_u2, p_tx, p_nu, p_y⟩ hP hS hl
set_option maxHeartbeats 4000000 in
set_option maxRecDepth 100000 in
theorem law_plan {p : Program} {l : Launch} {e : Env} {s : State} {m : MethodId} {below : List Frame} {meth : Method} {c : Code} {dd : va_G} {t : CL4} {z b L i : Nat} {xs : Nat → Int32} (hL : L ≤ 2048) (X : WX p s m #[Value.ref b] c cL_law 4 RL dd t) (hX : va_X b L xs s s.heap) (hbl : b < s.heap.size) (hbA : ¬ dm 412 (adz z) s.heap.size b) (hi : i + 4 ≤ L) (G : LGoal p l e s m below meth c dd t z b i 798) : LGoal p l e s m below meth c dd t z b i 564 := by
  intro w so x u ho sg hs z1 x1 u1 z2 x2 u2 tx nu y V H locs ls hrel hp hP hS hl
  obtain ⟨p_w, p_so, p_x, p_u, p_ho, p_sg, p_hs, p_z1, p_x1, p_u1, p_z2, p_x2, p_u2, p_tx, p_nu, p_y⟩ := hp
  obtain ⟨⟨nn, mm, kk, hrs⟩, hrh, hrq, hrt⟩ := id hrel
  have hx := X.1.1
  have hb := X.1.2.1
  have hro := hrs.row
  have hn := hrs.1.1.1
  have hm := hrs.1.1.2.1
  have hst := hrh.2.1
  have htl := hrt.2.1
  refine lv_aload_n hx hb dL_law_564 rfl (lv_at hl 2 rfl) ?_
  refine lv_aload_n hx hb dL_law_565 rfl (lv_at hl 3 rfl) ?_
  refine lv_iload_n hx hb dL_law_566 rfl (lv_at hl 0 rfl) ?_
  refine lv_iconst (v := nI 1) hx hb dL_law_567 (by decide) ?_
  refine q_iadd hx hb dL_law_568 ?_
  refine va_sld hx hb hX hbl hbA hS (vp_in_nI (show i + 1 < L by omega) (by omega)) dL_law_569 ?_
  refine q_val (congrArg xs (nI_clamp (show i + 1 < 2 ^ 31 by omega))) ?_
  refine lv_aload_n hx hb dL_law_570 rfl (lv_at hl 3 rfl) ?_
  refine lv_iload_n hx hb dL_law_571 rfl (lv_at hl 0 rfl) ?_
  refine lv_iconst (v := nI 2) hx hb dL_law_572 (by decide) ?_
  refine q_iadd hx hb dL_law_573 ?_
  refine va_sld hx hb hX hbl hbA hS (vp_in_nI (show i + 2 < L by omega) (by omega)) dL_law_574 ?_
  refine q_val (congrArg xs (nI_clamp (show i + 2 < 2 ^ 31 by omega))) ?_
  refine r_call (As := [.int (xs (i + 1)), .int (xs (i + 2))]) (rest := []) (ci := 5) X hP (c_X5_plan p_w p_so p_x p_u (xs (i + 1)) (xs (i + 2))) o_X5_plan rfl p_w.lt p_w.ob m626 ⟨rfl, rfl⟩ ⟨Nat.le_of_ble_eq_true rfl, Nat.le_of_ble_eq_true rfl⟩ rfl hl.1 rfl (Nat.le_of_ble_eq_true rfl) ⟨Nat.le_of_ble_eq_true rfl, Nat.le_of_ble_eq_true rfl⟩ dL_law_575 ?_
  refine lv_aload_n hx hb dL_law_578 rfl (lv_at hl 1 rfl) ?_
  refine lv_aload_n hx hb dL_law_579 rfl (lv_at hl 3 rfl) ?_
  refine lv_iload_n hx hb dL_law_580 rfl (lv_at hl 0 rfl) ?_
  refine lv_iconst (v := nI 1) hx hb dL_law_581 (by decide) ?_
  refine q_iadd hx hb dL_law_582 ?_
  refine va_sld hx hb hX hbl hbA hS (vp_in_nI (show i + 1 < L by omega) (by omega)) dL_law_583 ?_
  refine q_val (congrArg xs (nI_clamp (show i + 1 < 2 ^ 31 by omega))) ?_
  refine lv_aload_n hx hb dL_law_584 rfl (lv_at hl 3 rfl) ?_
  refine lv_iload_n hx hb dL_law_585 rfl (lv_at hl 0 rfl) ?_
  refine lv_iconst (v := nI 2) hx hb dL_law_586 (by decide) ?_
  refine q_iadd hx hb dL_law_587 ?_
  refine va_sld hx hb hX hbl hbA hS (vp_in_nI (show i + 2 < L by omega) (by omega)) dL_law_588 ?_
  refine q_val (congrArg xs (nI_clamp (show i + 2 < 2 ^ 31 by omega))) ?_
  refine r_call (As := [.int (xs (i + 1)), .int (xs (i + 2))]) (rest := [.int (f_X5_plan w so x u (xs (i + 1)) (xs (i + 2)))]) (ci := 6) X hP (c_X6_plan (nn := nn) (mm := mm) (kk := kk) p_y (xs (i + 1)) (xs (i + 2)) hro.1 hro.2.1 hro.2.2.1 hn hm hro.2.2.2.1 hro.2.2.2.2.1) o_X6_plan rfl p_y.lt p_y.ob m636 ⟨rfl, rfl⟩ ⟨Nat.le_of_ble_eq_true rfl, Nat.le_of_ble_eq_true rfl⟩ rfl hl.1 rfl (Nat.le_of_ble_eq_true rfl) ⟨Nat.le_of_ble_eq_true rfl, Nat.le_of_ble_eq_true rfl⟩ dL_law_589 ?_
  refine lv_icmp_eq (tgt := 798) hx hb dL_law_592 (by decide) (fun _ => ?_) (fun q => absurd (e_plan hrs (xs (i + 1)) (xs (i + 2))) q)
  exact G w so x u ho sg hs z1 x1 u1 z2 x2 u2 tx nu y V H locs ls hrel ⟨p_w, p_so, p_x, p_u, p_ho, p_sg, p_hs, p_z1, p_x1, p_u1, p_z2, p_x2, p_u2, p_tx, p_nu, p_y⟩ hP hS hl
set_option maxHeartbeats 4000000 in
set_option maxRecDepth 100000 in
theorem law_serves {p : Program} {l : Launch} {e : Env} {s : State} {m : MethodId} {below : List Frame} {meth : Method} {c : Code} {dd : va_G} {t : CL4} {z b L i : Nat} {xs : Nat → Int32} (hL : L ≤ 2048) (X : WX p s m #[Value.ref b] c cL_law 4 RL dd t) (hX : va_X b L xs s s.heap) (hbl : b < s.heap.size) (hbA : ¬ dm 412 (adz z) s.heap.size b) (hi : i + 4 ≤ L) (G : LGoal p l e s m below meth c dd t z b i 798) : LGoal p l e s m below meth c dd t z b i 597 := by
  intro w so x u ho sg hs z1 x1 u1 z2 x2 u2 tx nu y V H locs ls hrel hp hP hS hl
  obtain ⟨p_w, p_so, p_x, p_u, p_ho, p_sg, p_hs, p_z1, p_x1, p_u1, p_z2, p_x2, p_u2, p_tx, p_nu, p_y⟩ := hp
  obtain ⟨⟨nn, mm, kk, hrs⟩, hrh, hrq, hrt⟩ := id hrel
  have hx := X.1.1
  have hb := X.1.2.1
  have hro := hrs.row
  have hn := hrs.1.1.1
  have hm := hrs.1.1.2.1
  have hst := hrh.2.1
  have htl := hrt.2.1
  refine lv_aload_n hx hb dL_law_597 rfl (lv_at hl 2 rfl) ?_
  refine lv_aload_n hx hb dL_law_598 rfl (lv_at hl 3 rfl) ?_
  refine lv_iload_n hx hb dL_law_599 rfl (lv_at hl 0 rfl) ?_
  refine lv_iconst (v := nI 1) hx hb dL_law_600 (by decide) ?_
  refine q_iadd hx hb dL_law_601 ?_
  refine va_sld hx hb hX hbl hbA hS (vp_in_nI (show i + 1 < L by omega) (by omega)) dL_law_602 ?_
  refine q_val (congrArg xs (nI_clamp (show i + 1 < 2 ^ 31 by omega))) ?_
  refine lv_aload_n hx hb dL_law_603 rfl (lv_at hl 3 rfl) ?_
  refine lv_iload_n hx hb dL_law_604 rfl (lv_at hl 0 rfl) ?_
  refine lv_iconst (v := nI 2) hx hb dL_law_605 (by decide) ?_
  refine q_iadd hx hb dL_law_606 ?_
  refine va_sld hx hb hX hbl hbA hS (vp_in_nI (show i + 2 < L by omega) (by omega)) dL_law_607 ?_
  refine q_val (congrArg xs (nI_clamp (show i + 2 < 2 ^ 31 by omega))) ?_
  refine r_call (As := [.int (xs (i + 1)), .int (xs (i + 2))]) (rest := []) (ci := 5) X hP (c_X5_serves p_w p_so p_x p_u (xs (i + 1)) (xs (i + 2))) o_X5_serves rfl p_w.lt p_w.ob m640 ⟨rfl, rfl⟩ ⟨Nat.le_of_ble_eq_true rfl, Nat.le_of_ble_eq_true rfl⟩ rfl hl.1 rfl (Nat.le_of_ble_eq_true rfl) ⟨Nat.le_of_ble_eq_true rfl, Nat.le_of_ble_eq_true rfl⟩ dL_law_608 ?_
  refine lv_aload_n hx hb dL_law_611 rfl (lv_at hl 1 rfl) ?_
  refine lv_aload_n hx hb dL_law_612 rfl (lv_at hl 3 rfl) ?_
  refine lv_iload_n hx hb dL_law_613 rfl (lv_at hl 0 rfl) ?_
  refine lv_iconst (v := nI 1) hx hb dL_law_614 (by decide) ?_
  refine q_iadd hx hb dL_law_615 ?_
  refine va_sld hx hb hX hbl hbA hS (vp_in_nI (show i + 1 < L by omega) (by omega)) dL_law_616 ?_
  refine q_val (congrArg xs (nI_clamp (show i + 1 < 2 ^ 31 by omega))) ?_
  refine lv_aload_n hx hb dL_law_617 rfl (lv_at hl 3 rfl) ?_
  refine lv_iload_n hx hb dL_law_618 rfl (lv_at hl 0 rfl) ?_
  refine lv_iconst (v := nI 2) hx hb dL_law_619 (by decide) ?_
  refine q_iadd hx hb dL_law_620 ?_
  refine va_sld hx hb hX hbl hbA hS (vp_in_nI (show i + 2 < L by omega) (by omega)) dL_law_621 ?_
  refine q_val (congrArg xs (nI_clamp (show i + 2 < 2 ^ 31 by omega))) ?_
  refine r_call (As := [.int (xs (i + 1)), .int (xs (i + 2))]) (rest := [.int (f_X5_serves w so x u (xs (i + 1)) (xs (i + 2)))]) (ci := 6) X hP (c_X6_serves (nn := nn) (mm := mm) (kk := kk) p_y (xs (i + 1)) (xs (i + 2)) hro.1 hro.2.1 hro.2.2.1 hn hm hro.2.2.2.1) o_X6_serves rfl p_y.lt p_y.ob m649 ⟨rfl, rfl⟩ ⟨Nat.le_of_ble_eq_true rfl, Nat.le_of_ble_eq_true rfl⟩ rfl hl.1 rfl (Nat.le_of_ble_eq_true rfl) ⟨Nat.le_of_ble_eq_true rfl, Nat.le_of_ble_eq_true rfl⟩ dL_law_622 ?_
  refine lv_icmp_eq (tgt := 798) hx hb dL_law_625 (by decide) (fun _ => ?_) (fun q => absurd (e_serves hrs (xs (i + 1)) (xs (i + 2))) q)
  exact G w so x u ho sg hs z1 x1 u1 z2 x2 u2 tx nu y V H locs ls hrel ⟨p_w, p_so, p_x, p_u, p_ho, p_sg, p_hs, p_z1, p_x1, p_u1, p_z2, p_x2, p_u2, p_tx, p_nu, p_y⟩ hP hS hl
set_option maxHeartbeats 4000000 in
set_option maxRecDepth 100000 in
theorem law_cut {p : Program} {l : Launch} {e : Env} {s : State} {m : MethodId} {below : List Frame} {meth : Method} {c : Code} {dd : va_G} {t : CL4} {z b L i : Nat} {xs : Nat → Int32} (hL : L ≤ 2048) (X : WX p s m #[Value.ref b] c cL_law 4 RL dd t) (hX : va_X b L xs s s.heap) (hbl : b < s.heap.size) (hbA : ¬ dm 412 (adz z) s.heap.size b) (hi : i + 4 ≤ L) (G : LGoal p l e s m below meth c dd t z b i 798) : LGoal p l e s m below meth c dd t z b i 630 := by
  intro w so x u ho sg hs z1 x1 u1 z2 x2 u2 tx nu y V H locs ls hrel hp hP hS hl
  obtain ⟨p_w, p_so, p_x, p_u, p_ho, p_sg, p_hs, p_z1, p_x1, p_u1, p_z2, p_x2, p_u2, p_tx, p_nu, p_y⟩ := hp
  obtain ⟨⟨nn, mm, kk, hrs⟩, hrh, hrq, hrt⟩ := id hrel
  have hx := X.1.1
  have hb := X.1.2.1
  have hro := hrs.row
  have hn := hrs.1.1.1
  have hm := hrs.1.1.2.1
  have hst := hrh.2.1
  have htl := hrt.2.1
  refine lv_aload_n hx hb dL_law_630 rfl (lv_at hl 2 rfl) ?_
  refine lv_aload_n hx hb dL_law_631 rfl (lv_at hl 3 rfl) ?_
  refine lv_iload_n hx hb dL_law_632 rfl (lv_at hl 0 rfl) ?_
  refine lv_iconst (v := nI 1) hx hb dL_law_633 (by decide) ?_
  refine q_iadd hx hb dL_law_634 ?_
  refine va_sld hx hb hX hbl hbA hS (vp_in_nI (show i + 1 < L by omega) (by omega)) dL_law_635 ?_
  refine q_val (congrArg xs (nI_clamp (show i + 1 < 2 ^ 31 by omega))) ?_
  refine lv_aload_n hx hb dL_law_636 rfl (lv_at hl 3 rfl) ?_
  refine lv_iload_n hx hb dL_law_637 rfl (lv_at hl 0 rfl) ?_
  refine lv_iconst (v := nI 2) hx hb dL_law_638 (by decide) ?_
  refine q_iadd hx hb dL_law_639 ?_
  refine va_sld hx hb hX hbl hbA hS (vp_in_nI (show i + 2 < L by omega) (by omega)) dL_law_640 ?_
  refine q_val (congrArg xs (nI_clamp (show i + 2 < 2 ^ 31 by omega))) ?_
  refine r_call (As := [.int (xs (i + 1)), .int (xs (i + 2))]) (rest := []) (ci := 5) X hP (c_X5_cut p_w p_so p_x p_u (xs (i + 1)) (xs (i + 2))) o_X5_cut rfl p_w.lt p_w.ob m653 ⟨rfl, rfl⟩ ⟨Nat.le_of_ble_eq_true rfl, Nat.le_of_ble_eq_true rfl⟩ rfl hl.1 rfl (Nat.le_of_ble_eq_true rfl) ⟨Nat.le_of_ble_eq_true rfl, Nat.le_of_ble_eq_true rfl⟩ dL_law_641 ?_
  refine lv_aload_n hx hb dL_law_644 rfl (lv_at hl 1 rfl) ?_
  refine lv_aload_n hx hb dL_law_645 rfl (lv_at hl 3 rfl) ?_
  refine lv_iload_n hx hb dL_law_646 rfl (lv_at hl 0 rfl) ?_
  refine lv_iconst (v := nI 1) hx hb dL_law_647 (by decide) ?_
  refine q_iadd hx hb dL_law_648 ?_
  refine va_sld hx hb hX hbl hbA hS (vp_in_nI (show i + 1 < L by omega) (by omega)) dL_law_649 ?_
  refine q_val (congrArg xs (nI_clamp (show i + 1 < 2 ^ 31 by omega))) ?_
  refine lv_aload_n hx hb dL_law_650 rfl (lv_at hl 3 rfl) ?_
  refine lv_iload_n hx hb dL_law_651 rfl (lv_at hl 0 rfl) ?_
  refine lv_iconst (v := nI 2) hx hb dL_law_652 (by decide) ?_
  refine q_iadd hx hb dL_law_653 ?_
  refine va_sld hx hb hX hbl hbA hS (vp_in_nI (show i + 2 < L by omega) (by omega)) dL_law_654 ?_
  refine q_val (congrArg xs (nI_clamp (show i + 2 < 2 ^ 31 by omega))) ?_
  refine r_call (As := [.int (xs (i + 1)), .int (xs (i + 2))]) (rest := [.int (f_X5_cut w so x u (xs (i + 1)) (xs (i + 2)))]) (ci := 6) X hP (c_X6_cut (nn := nn) (mm := mm) (kk := kk) p_y (xs (i + 1)) (xs (i + 2)) hro.1 hro.2.1 hro.2.2.1 hn hm hro.2.2.2.1 hro.2.2.2.2.1) o_X6_cut rfl p_y.lt p_y.ob m685 ⟨rfl, rfl⟩ ⟨Nat.le_of_ble_eq_true rfl, Nat.le_of_ble_eq_true rfl⟩ rfl hl.1 rfl (Nat.le_of_ble_eq_true rfl) ⟨Nat.le_of_ble_eq_true rfl, Nat.le_of_ble_eq_true rfl⟩ dL_law_655 ?_
  refine lv_icmp_eq (tgt := 798) hx hb dL_law_658 (by decide) (fun _ => ?_) (fun q => absurd (e_cut hrs (xs (i + 1)) (xs (i + 2))) q)
  exact G w so x u ho sg hs z1 x1 u1 z2 x2 u2 tx nu y V H locs ls hrel ⟨p_w, p_so, p_x, p_u, p_ho, p_sg, p_hs, p_z1, p_x1, p_u1, p_z2, p_x2, p_u2, p_tx, p_nu, p_y⟩ hP hS hl
set_option maxHeartbeats 4000000 in
set_option maxRecDepth 100000 in
theorem law_weight {p : Program} {l : Launch} {e : Env} {s : State} {m : MethodId} {below : List Frame} {meth : Method} {c : Code} {dd : va_G} {t : CL4} {z b L i : Nat} {xs : Nat → Int32} (hL : L ≤ 2048) (X : WX p s m #[Value.ref b] c cL_law 4 RL dd t) (hX : va_X b L xs s s.heap) (hbl : b < s.heap.size) (hbA : ¬ dm 412 (adz z) s.heap.size b) (hi : i + 4 ≤ L) (G : LGoal p l e s m below meth c dd t z b i 798) : LGoal p l e s m below meth c dd t z b i 663 := by
  intro w so x u ho sg hs z1 x1 u1 z2 x2 u2 tx nu y V H locs ls hrel hp hP hS hl
  obtain ⟨p_w, p_so, p_x, p_u, p_ho, p_sg, p_hs, p_z1, p_x1, p_u1, p_z2, p_x2, p_u2, p_tx, p_nu, p_y⟩ := hp
  obtain ⟨⟨nn, mm, kk, hrs⟩, hrh, hrq, hrt⟩ := id hrel
  have hx := X.1.1
  have hb := X.1.2.1
  have hro := hrs.row
  have hn := hrs.1.1.1
  have hm := hrs.1.1.2.1
  have hst := hrh.2.1
  have htl := hrt.2.1
  refine lv_aload_n hx hb dL_law_663 rfl (lv_at hl 2 rfl) ?_
  refine lv_aload_n hx hb dL_law_664 rfl (lv_at hl 3 rfl) ?_
  refine lv_iload_n hx hb dL_law_665 rfl (lv_at hl 0 rfl) ?_
  refine lv_iconst (v := nI 1) hx hb dL_law_666 (by decide) ?_
  refine q_iadd hx hb dL_law_667 ?_
  refine va_sld hx hb hX hbl hbA hS (vp_in_nI (show i + 1 < L by omega) (by omega)) dL_law_668 ?_
  refine q_val (congrArg xs (nI_clamp (show i + 1 < 2 ^ 31 by omega))) ?_
  refine lv_aload_n hx hb dL_law_669 rfl (lv_at hl 3 rfl) ?_
  refine lv_iload_n hx hb dL_law_670 rfl (lv_at hl 0 rfl) ?_
  refine lv_iconst (v := nI 2) hx hb dL_law_671 (by decide) ?_
  refine q_iadd hx hb dL_law_672 ?_
  refine va_sld hx hb hX hbl hbA hS (vp_in_nI (show i + 2 < L by omega) (by omega)) dL_law_673 ?_
  refine q_val (congrArg xs (nI_clamp (show i + 2 < 2 ^ 31 by omega))) ?_
  refine r_call (As := [.int (xs (i + 1)), .int (xs (i + 2))]) (rest := []) (ci := 5) X hP (c_X5_weight p_w p_so p_x p_u (xs (i + 1)) (xs (i + 2))) o_X5_weight rfl p_w.lt p_w.ob m697 ⟨rfl, rfl⟩ ⟨Nat.le_of_ble_eq_true rfl, Nat.le_of_ble_eq_true rfl⟩ rfl hl.1 rfl (Nat.le_of_ble_eq_true rfl) ⟨Nat.le_of_ble_eq_true rfl, Nat.le_of_ble_eq_true rfl⟩ dL_law_674 ?_
  refine lv_aload_n hx hb dL_law_677 rfl (lv_at hl 1 rfl) ?_
  refine lv_aload_n hx hb dL_law_678 rfl (lv_at hl 3 rfl) ?_
  refine lv_iload_n hx hb dL_law_679 rfl (lv_at hl 0 rfl) ?_
  refine lv_iconst (v := nI 1) hx hb dL_law_680 (by decide) ?_
  refine q_iadd hx hb dL_law_681 ?_
  refine va_sld hx hb hX hbl hbA hS (vp_in_nI (show i + 1 < L by omega) (by omega)) dL_law_682 ?_
  refine q_val (congrArg xs (nI_clamp (show i + 1 < 2 ^ 31 by omega))) ?_
  refine lv_aload_n hx hb dL_law_683 rfl (lv_at hl 3 rfl) ?_
  refine lv_iload_n hx hb dL_law_684 rfl (lv_at hl 0 rfl) ?_
  refine lv_iconst (v := nI 2) hx hb dL_law_685 (by decide) ?_
  refine q_iadd hx hb dL_law_686 ?_
  refine va_sld hx hb hX hbl hbA hS (vp_in_nI (show i + 2 < L by omega) (by omega)) dL_law_687 ?_
  refine q_val (congrArg xs (nI_clamp (show i + 2 < 2 ^ 31 by omega))) ?_
  refine r_call (As := [.int (xs (i + 1)), .int (xs (i + 2))]) (rest := [.int (f_X5_weight w so x u (xs (i + 1)) (xs (i + 2)))]) (ci := 6) X hP (c_X6_weight (nn := nn) (mm := mm) (kk := kk) p_y (xs (i + 1)) (xs (i + 2)) hro.1 hro.2.1 hro.2.2.1 hn hm hro.2.2.2.1 hro.2.2.2.2.1) o_X6_weight rfl p_y.lt p_y.ob m702 ⟨rfl, rfl⟩ ⟨Nat.le_of_ble_eq_true rfl, Nat.le_of_ble_eq_true rfl⟩ rfl hl.1 rfl (Nat.le_of_ble_eq_true rfl) ⟨Nat.le_of_ble_eq_true rfl, Nat.le_of_ble_eq_true rfl⟩ dL_law_688 ?_
  refine lv_icmp_eq (tgt := 798) hx hb dL_law_691 (by decide) (fun _ => ?_) (fun q => absurd (e_weight hrs (xs (i + 1)) (xs (i + 2))) q)
  exact G w so x u ho sg hs z1 x1 u1 z2 x2 u2 tx nu y V H locs ls hrel ⟨p_w, p_so, p_x, p_u, p_ho, p_sg, p_hs, p_z1, p_x1, p_u1, p_z2, p_x2, p_u2, p_tx, p_nu, p_y⟩ hP hS hl
set_option maxHeartbeats 4000000 in
set_option maxRecDepth 100000 in
theorem law_value {p : Program} {l : Launch} {e : Env} {s : State} {m : MethodId} {below : List Frame} {meth : Method} {c : Code} {dd : va_G} {t : CL4} {z b L i : Nat} {xs : Nat → Int32} (hL : L ≤ 2048) (X : WX p s m #[Value.ref b] c cL_law 4 RL dd t) (hX : va_X b L xs s s.heap) (hbl : b < s.heap.size) (hbA : ¬ dm 412 (adz z) s.heap.size b) (hi : i + 4 ≤ L) (G : LGoal p l e s m below meth c dd t z b i 798) : LGoal p l e s m below meth c dd t z b i 696 := by
  intro w so x u ho sg hs z1 x1 u1 z2 x2 u2 tx nu y V H locs ls hrel hp hP hS hl
  obtain ⟨p_w, p_so, p_x, p_u, p_ho, p_sg, p_hs, p_z1, p_x1, p_u1, p_z2, p_x2, p_u2, p_tx, p_nu, p_y⟩ := hp
  obtain ⟨⟨nn, mm, kk, hrs⟩, hrh, hrq, hrt⟩ := id hrel
  have hx := X.1.1
  have hb := X.1.2.1
  have hro := hrs.row
  have hn := hrs.1.1.1
  have hm := hrs.1.1.2.1
  have hst := hrh.2.1
  have htl := hrt.2.1
  refine lv_aload_n hx hb dL_law_696 rfl (lv_at hl 2 rfl) ?_
  refine lv_aload_n hx hb dL_law_697 rfl (lv_at hl 3 rfl) ?_
  refine lv_iload_n hx hb dL_law_698 rfl (lv_at hl 0 rfl) ?_
  refine lv_iconst (v := nI 1) hx hb dL_law_699 (by decide) ?_
  refine q_iadd hx hb dL_law_700 ?_
  refine va_sld hx hb hX hbl hbA hS (vp_in_nI (show i + 1 < L by omega) (by omega)) dL_law_701 ?_
  refine q_val (congrArg xs (nI_clamp (show i + 1 < 2 ^ 31 by omega))) ?_
  refine lv_aload_n hx hb dL_law_702 rfl (lv_at hl 3 rfl) ?_
  refine lv_iload_n hx hb dL_law_703 rfl (lv_at hl 0 rfl) ?_
  refine lv_iconst (v := nI 2) hx hb dL_law_704 (by decide) ?_
  refine q_iadd hx hb dL_law_705 ?_
  refine va_sld hx hb hX hbl hbA hS (vp_in_nI (show i + 2 < L by omega) (by omega)) dL_law_706 ?_
  refine q_val (congrArg xs (nI_clamp (show i + 2 < 2 ^ 31 by omega))) ?_
  refine r_call (As := [.int (xs (i + 1)), .int (xs (i + 2))]) (rest := []) (ci := 5) X hP (c_X5_value p_w p_so p_x p_u (xs (i + 1)) (xs (i + 2))) o_X5_value rfl p_w.lt p_w.ob m706 ⟨rfl, rfl⟩ ⟨Nat.le_of_ble_eq_true rfl, Nat.le_of_ble_eq_true rfl⟩ rfl hl.1 rfl (Nat.le_of_ble_eq_true rfl) ⟨Nat.le_of_ble_eq_true rfl, Nat.le_of_ble_eq_true rfl⟩ dL_law_707 ?_
  refine lv_aload_n hx hb dL_law_710 rfl (lv_at hl 1 rfl) ?_
  refine lv_aload_n hx hb dL_law_711 rfl (lv_at hl 3 rfl) ?_
  refine lv_iload_n hx hb dL_law_712 rfl (lv_at hl 0 rfl) ?_
  refine lv_iconst (v := nI 1) hx hb dL_law_713 (by decide) ?_
  refine q_iadd hx hb dL_law_714 ?_
  refine va_sld hx hb hX hbl hbA hS (vp_in_nI (show i + 1 < L by omega) (by omega)) dL_law_715 ?_
  refine q_val (congrArg xs (nI_clamp (show i + 1 < 2 ^ 31 by omega))) ?_
  refine lv_aload_n hx hb dL_law_716 rfl (lv_at hl 3 rfl) ?_
  refine lv_iload_n hx hb dL_law_717 rfl (lv_at hl 0 rfl) ?_
  refine lv_iconst (v := nI 2) hx hb dL_law_718 (by decide) ?_
  refine q_iadd hx hb dL_law_719 ?_
  refine va_sld hx hb hX hbl hbA hS (vp_in_nI (show i + 2 < L by omega) (by omega)) dL_law_720 ?_
  refine q_val (congrArg xs (nI_clamp (show i + 2 < 2 ^ 31 by omega))) ?_
  refine r_call (As := [.int (xs (i + 1)), .int (xs (i + 2))]) (rest := [.int (f_X5_value w so x u (xs (i + 1)) (xs (i + 2)))]) (ci := 6) X hP (c_X6_value (nn := nn) (mm := mm) (kk := kk) p_y (xs (i + 1)) (xs (i + 2)) hro.1 hro.2.1 hro.2.2.1 hn hm hro.2.2.2.1 hro.2.2.2.2.1) o_X6_value rfl p_y.lt p_y.ob m713 ⟨rfl, rfl⟩ ⟨Nat.le_of_ble_eq_true rfl, Nat.le_of_ble_eq_true rfl⟩ rfl hl.1 rfl (Nat.le_of_ble_eq_true rfl) ⟨Nat.le_of_ble_eq_true rfl, Nat.le_of_ble_eq_true rfl⟩ dL_law_721 ?_
  refine lv_icmp_eq (tgt := 798) hx hb dL_law_724 (by decide) (fun _ => ?_) (fun q => absurd (e_value hrs (xs (i + 1)) (xs (i + 2))) q)
  exact G w so x u ho sg hs z1 x1 u1 z2 x2 u2 tx nu y V H locs ls hrel ⟨p_w, p_so, p_x, p_u, p_ho, p_sg, p_hs, p_z1, p_x1, p_u1, p_z2, p_x2, p_u2, p_tx, p_nu, p_y⟩ hP hS hl
set_option maxHeartbeats 4000000 in
set_option maxRecDepth 100000 in
theorem law_master {p : Program} {l : Launch} {e : Env} {s : State} {m : MethodId} {below : List Frame} {meth : Method} {c : Code} {dd : va_G} {t : CL4} {z b L i : Nat} {xs : Nat → Int32} (hL : L ≤ 2048) (X : WX p s m #[Value.ref b] c cL_law 4 RL dd t) (hX : va_X b L xs s s.heap) (hbl : b < s.heap.size) (hbA : ¬ dm 412 (adz z) s.heap.size b) (hi : i + 4 ≤ L) (G : LGoal p l e s m below meth c dd t z b i 798) : LGoal p l e s m below meth c dd t z b i 729 := by
  intro w so x u ho sg hs z1 x1 u1 z2 x2 u2 tx nu y V H locs ls hrel hp hP hS hl
  obtain ⟨p_w, p_so, p_x, p_u, p_ho, p_sg, p_hs, p_z1, p_x1, p_u1, p_z2, p_x2, p_u2, p_tx, p_nu, p_y⟩ := hp
  obtain ⟨⟨nn, mm, kk, hrs⟩, hrh, hrq, hrt⟩ := id hrel
  have hx := X.1.1
  have hb := X.1.2.1
  have hro := hrs.row
  have hn := hrs.1.1.1
  have hm := hrs.1.1.2.1
  have hst := hrh.2.1
  have htl := hrt.2.1
  refine lv_aload_n hx hb dL_law_729 rfl (lv_at hl 2 rfl) ?_
  refine lv_aload_n hx hb dL_law_730 rfl (lv_at hl 3 rfl) ?_
  refine lv_iload_n hx hb dL_law_731 rfl (lv_at hl 0 rfl) ?_
  refine lv_iconst (v := nI 1) hx hb dL_law_732 (by decide) ?_
  refine q_iadd hx hb dL_law_733 ?_
  refine va_sld hx hb hX hbl hbA hS (vp_in_nI (show i + 1 < L by omega) (by omega)) dL_law_734 ?_
  refine q_val (congrArg xs (nI_clamp (show i + 1 < 2 ^ 31 by omega))) ?_
  refine r_call (As := [.int (xs (i + 1))]) (rest := []) (ci := 5) X hP (c_X5_master p_w p_so p_x p_u (xs (i + 1))) o_X5_master rfl p_w.lt p_w.ob m718 ⟨rfl, rfl⟩ ⟨Nat.le_of_ble_eq_true rfl, Nat.le_of_ble_eq_true rfl⟩ rfl hl.1 rfl (Nat.le_of_ble_eq_true rfl) ⟨Nat.le_of_ble_eq_true rfl, Nat.le_of_ble_eq_true rfl⟩ dL_law_735 ?_
  refine lv_aload_n hx hb dL_law_738 rfl (lv_at hl 1 rfl) ?_
  refine lv_aload_n hx hb dL_law_739 rfl (lv_at hl 3 rfl) ?_
  refine lv_iload_n hx hb dL_law_740 rfl (lv_at hl 0 rfl) ?_
  refine lv_iconst (v := nI 1) hx hb dL_law_741 (by decide) ?_
  refine q_iadd hx hb dL_law_742 ?_
  refine va_sld hx hb hX hbl hbA hS (vp_in_nI (show i + 1 < L by omega) (by omega)) dL_law_743 ?_
  refine q_val (congrArg xs (nI_clamp (show i + 1 < 2 ^ 31 by omega))) ?_
  refine r_call (As := [.int (xs (i + 1))]) (rest := [.int (f_X5_master w so x u (xs (i + 1)))]) (ci := 6) X hP (c_X6_master (nn := nn) (mm := mm) (kk := kk) p_y (xs (i + 1)) hro.1 hro.2.1 hro.2.2.1 hn hm hro.2.2.2.1 hro.2.2.2.2.1 hro.2.2.2.2.2) o_X6_master rfl p_y.lt p_y.ob m738 ⟨rfl, rfl⟩ ⟨Nat.le_of_ble_eq_true rfl, Nat.le_of_ble_eq_true rfl⟩ rfl hl.1 rfl (Nat.le_of_ble_eq_true rfl) ⟨Nat.le_of_ble_eq_true rfl, Nat.le_of_ble_eq_true rfl⟩ dL_law_744 ?_
  refine lv_icmp_eq (tgt := 798) hx hb dL_law_747 (by decide) (fun _ => ?_) (fun q => absurd (e_master hrs (xs (i + 1))) q)
  exact G w so x u ho sg hs z1 x1 u1 z2 x2 u2 tx nu y V H locs ls hrel ⟨p_w, p_so, p_x, p_u, p_ho, p_sg, p_hs, p_z1, p_x1, p_u1, p_z2, p_x2, p_u2, p_tx, p_nu, p_y⟩ hP hS hl
set_option maxHeartbeats 4000000 in
set_option maxRecDepth 100000 in
theorem law_byAll {p : Program} {l : Launch} {e : Env} {s : State} {m : MethodId} {below : List Frame} {meth : Method} {c : Code} {dd : va_G} {t : CL4} {z b L i : Nat} {xs : Nat → Int32} (hL : L ≤ 2048) (X : WX p s m #[Value.ref b] c cL_law 4 RL dd t) (hX : va_X b L xs s s.heap) (hbl : b < s.heap.size) (hbA : ¬ dm 412 (adz z) s.heap.size b) (hi : i + 4 ≤ L) (G : LGoal p l e s m below meth c dd t z b i 798) : LGoal p l e s m below meth c dd t z b i 752 := by
  intro w so x u ho sg hs z1 x1 u1 z2 x2 u2 tx nu y V H locs ls hrel hp hP hS hl
  obtain ⟨p_w, p_so, p_x, p_u, p_ho, p_sg, p_hs, p_z1, p_x1, p_u1, p_z2, p_x2, p_u2, p_tx, p_nu, p_y⟩ := hp
  obtain ⟨⟨nn, mm, kk, hrs⟩, hrh, hrq, hrt⟩ := id hrel
  have hx := X.1.1
  have hb := X.1.2.1
  have hro := hrs.row
  have hn := hrs.1.1.1
  have hm := hrs.1.1.2.1
  have hst := hrh.2.1
  have htl := hrt.2.1
  refine lv_aload_n hx hb dL_law_752 rfl (lv_at hl 2 rfl) ?_
  refine lv_aload_n hx hb dL_law_753 rfl (lv_at hl 3 rfl) ?_
  refine lv_iload_n hx hb dL_law_754 rfl (lv_at hl 0 rfl) ?_
  refine lv_iconst (v := nI 1) hx hb dL_law_755 (by decide) ?_
  refine q_iadd hx hb dL_law_756 ?_
  refine va_sld hx hb hX hbl hbA hS (vp_in_nI (show i + 1 < L by omega) (by omega)) dL_law_757 ?_
  refine q_val (congrArg xs (nI_clamp (show i + 1 < 2 ^ 31 by omega))) ?_
  refine r_call (As := [.int (xs (i + 1))]) (rest := []) (ci := 5) X hP (c_X5_byAll p_w p_so p_x p_u (xs (i + 1))) o_X5_byAll rfl p_w.lt p_w.ob m742 ⟨rfl, rfl⟩ ⟨Nat.le_of_ble_eq_true rfl, Nat.le_of_ble_eq_true rfl⟩ rfl hl.1 rfl (Nat.le_of_ble_eq_true rfl) ⟨Nat.le_of_ble_eq_true rfl, Nat.le_of_ble_eq_true rfl⟩ dL_law_758 ?_
  refine lv_aload_n hx hb dL_law_761 rfl (lv_at hl 1 rfl) ?_
  refine lv_aload_n hx hb dL_law_762 rfl (lv_at hl 3 rfl) ?_
  refine lv_iload_n hx hb dL_law_763 rfl (lv_at hl 0 rfl) ?_
  refine lv_iconst (v := nI 1) hx hb dL_law_764 (by decide) ?_
  refine q_iadd hx hb dL_law_765 ?_
  refine va_sld hx hb hX hbl hbA hS (vp_in_nI (show i + 1 < L by omega) (by omega)) dL_law_766 ?_
  refine q_val (congrArg xs (nI_clamp (show i + 1 < 2 ^ 31 by omega))) ?_
  refine r_call (As := [.int (xs (i + 1))]) (rest := [.int (f_X5_byAll w so x u (xs (i + 1)))]) (ci := 6) X hP (c_X6_byAll (nn := nn) (mm := mm) (kk := kk) p_y (xs (i + 1)) hro.1 hro.2.1 hro.2.2.1 hn hm hro.2.2.2.1) o_X6_byAll rfl p_y.lt p_y.ob m756 ⟨rfl, rfl⟩ ⟨Nat.le_of_ble_eq_true rfl, Nat.le_of_ble_eq_true rfl⟩ rfl hl.1 rfl (Nat.le_of_ble_eq_true rfl) ⟨Nat.le_of_ble_eq_true rfl, Nat.le_of_ble_eq_true rfl⟩ dL_law_767 ?_
  refine lv_icmp_eq (tgt := 798) hx hb dL_law_770 (by decide) (fun _ => ?_) (fun q => absurd (e_byAll hrs (xs (i + 1))) q)
  exact G w so x u ho sg hs z1 x1 u1 z2 x2 u2 tx nu y V H locs ls hrel ⟨p_w, p_so, p_x, p_u, p_ho, p_sg, p_hs, p_z1, p_x1, p_u1, p_z2, p_x2, p_u2, p_tx, p_nu, p_y⟩ hP hS hl
set_option maxHeartbeats 4000000 in
set_option maxRecDepth 100000 in
theorem law_count {p : Program} {l : Launch} {e : Env} {s : State} {m : MethodId} {below : List Frame} {meth : Method} {c : Code} {dd : va_G} {t : CL4} {z b L i : Nat} {xs : Nat → Int32} (hL : L ≤ 2048) (X : WX p s m #[Value.ref b] c cL_law 4 RL dd t) (hX : va_X b L xs s s.heap) (hbl : b < s.heap.size) (hbA : ¬ dm 412 (adz z) s.heap.size b) (hi : i + 4 ≤ L) (G : LGoal p l e s m below meth c dd t z b i 798) : LGoal p l e s m below meth c dd t z b i 775 := by
  intro w so x u ho sg hs z1 x1 u1 z2 x2 u2 tx nu y V H locs ls hrel hp hP hS hl
  obtain ⟨p_w, p_so, p_x, p_u, p_ho, p_sg, p_hs, p_z1, p_x1, p_u1, p_z2, p_x2, p_u2, p_tx, p_nu, p_y⟩ := hp
  obtain ⟨⟨nn, mm, kk, hrs⟩, hrh, hrq, hrt⟩ := id hrel
  have hx := X.1.1
  have hb := X.1.2.1
  have hro := hrs.row
  have hn := hrs.1.1.1
  have hm := hrs.1.1.2.1
  have hst := hrh.2.1
  have htl := hrt.2.1
  refine lv_aload_n hx hb dL_law_775 rfl (lv_at hl 2 rfl) ?_
  refine lv_aload_n hx hb dL_law_776 rfl (lv_at hl 3 rfl) ?_
  refine lv_iload_n hx hb dL_law_777 rfl (lv_at hl 0 rfl) ?_
  refine lv_iconst (v := nI 1) hx hb dL_law_778 (by decide) ?_
  refine q_iadd hx hb dL_law_779 ?_
  refine va_sld hx hb hX hbl hbA hS (vp_in_nI (show i + 1 < L by omega) (by omega)) dL_law_780 ?_
  refine q_val (congrArg xs (nI_clamp (show i + 1 < 2 ^ 31 by omega))) ?_
  refine r_call (As := [.int (xs (i + 1))]) (rest := []) (ci := 5) X hP (c_X5_count p_w p_so p_x p_u p_ho p_tx (xs (i + 1))) o_X5_count rfl p_w.lt p_w.ob m760 ⟨rfl, rfl⟩ ⟨Nat.le_of_ble_eq_true rfl, Nat.le_of_ble_eq_true rfl⟩ rfl hl.1 rfl (Nat.le_of_ble_eq_true rfl) ⟨Nat.le_of_ble_eq_true rfl, Nat.le_of_ble_eq_true rfl⟩ dL_law_781 ?_
  refine lv_aload_n hx hb dL_law_784 rfl (lv_at hl 1 rfl) ?_
  refine lv_aload_n hx hb dL_law_785 rfl (lv_at hl 3 rfl) ?_
  refine lv_iload_n hx hb dL_law_786 rfl (lv_at hl 0 rfl) ?_
  refine lv_iconst (v := nI 1) hx hb dL_law_787 (by decide) ?_
  refine q_iadd hx hb dL_law_788 ?_
  refine va_sld hx hb hX hbl hbA hS (vp_in_nI (show i + 1 < L by omega) (by omega)) dL_law_789 ?_
  refine q_val (congrArg xs (nI_clamp (show i + 1 < 2 ^ 31 by omega))) ?_
  refine r_call (As := [.int (xs (i + 1))]) (rest := [.int (f_X5_count w so x u ho tx (xs (i + 1)))]) (ci := 6) X hP (c_X6_count (nn := nn) (mm := mm) (kk := kk) p_y (xs (i + 1)) hro.1 hro.2.1 hro.2.2.1 hn hm hro.2.2.2.1) o_X6_count rfl p_y.lt p_y.ob m778 ⟨rfl, rfl⟩ ⟨Nat.le_of_ble_eq_true rfl, Nat.le_of_ble_eq_true rfl⟩ rfl hl.1 rfl (Nat.le_of_ble_eq_true rfl) ⟨Nat.le_of_ble_eq_true rfl, Nat.le_of_ble_eq_true rfl⟩ dL_law_790 ?_
  refine lv_icmp_eq (tgt := 798) hx hb dL_law_793 (by decide) (fun _ => ?_) (fun q => absurd (e_count hrs hrh.1 hrt.1 (xs (i + 1))) q)
  exact G w so x u ho sg hs z1 x1 u1 z2 x2 u2 tx nu y V H locs ls hrel ⟨p_w, p_so, p_x, p_u, p_ho, p_sg, p_hs, p_z1, p_x1, p_u1, p_z2, p_x2, p_u2, p_tx, p_nu, p_y⟩ hP hS hl
