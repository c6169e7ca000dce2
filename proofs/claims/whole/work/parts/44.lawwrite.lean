/-! ===== the cases of the law that write ===== -/
set_option maxHeartbeats 4000000 in
set_option maxRecDepth 100000 in
theorem law_addSite {p : Program} {l : Launch} {e : Env} {s : State} {m : MethodId} {below : List Frame} {meth : Method} {c : Code} {dd : va_G} {t : CL4} {z b L i : Nat} {xs : Nat → Int32} (hL : L ≤ 2048) (X : WX p s m #[Value.ref b] c cL_law 4 RL dd t) (hX : va_X b L xs s s.heap) (hbl : b < s.heap.size) (hbA : ¬ dm 412 (adz z) s.heap.size b) (hi : i + 4 ≤ L) (G : LGoal p l e s m below meth c dd t z b i 798) : LGoal p l e s m below meth c dd t z b i 152 := by
  intro w so x u ho sg hs z1 x1 u1 z2 x2 u2 tx nu y V H locs ls hrel hp hP hS hl
  obtain ⟨p_w, p_so, p_x, p_u, p_ho, p_sg, p_hs, p_z1, p_x1, p_u1, p_z2, p_x2, p_u2, p_tx, p_nu, p_y⟩ := hp
  obtain ⟨⟨nn, mm, kk, hrs⟩, hrh, hrq, hrt⟩ := id hrel
  have hx := X.1.1
  have hb := X.1.2.1
  have hro := hrs.row
  have hn := hrs.1.1.1
  have hm := hrs.1.1.2.1
  have hst := hrh.2.1
  have htl := hrt.2.1
  have hsg := hrh.2.2.1
  refine lv_aload_n hx hb dL_law_152 rfl (lv_at hl 2 rfl) ?_
  refine lv_aload_n hx hb dL_law_153 rfl (lv_at hl 3 rfl) ?_
  refine lv_iload_n hx hb dL_law_154 rfl (lv_at hl 0 rfl) ?_
  refine lv_iconst (v := nI 1) hx hb dL_law_155 (by decide) ?_
  refine q_iadd hx hb dL_law_156 ?_
  refine va_sld hx hb hX hbl hbA hS (vp_in_nI (show i + 1 < L by omega) (by omega)) dL_law_157 ?_
  refine q_val (congrArg xs (nI_clamp (show i + 1 < 2 ^ 31 by omega))) ?_
  refine r_callM (As := [.int (xs (i + 1))]) (rest := []) (ci := 5) X hP hS (c_X5_addSite inj_z p_w p_so p_x p_u p_ho p_sg p_hs (xs (i + 1)) hsg) o_X5_addSite rfl p_w.lt p_w.ob m89 ⟨rfl, rfl⟩ ⟨Nat.le_of_ble_eq_true rfl, Nat.le_of_ble_eq_true rfl⟩ rfl hl.1 rfl (Nat.le_of_ble_eq_true rfl) ⟨Nat.le_of_ble_eq_true rfl, Nat.le_of_ble_eq_true rfl⟩ dL_law_158 (fun r V1 H1 locs1 hq hP hS => ?_)
  obtain ⟨hr, p_so, p_x, p_u, p_ho, p_sg, p_hs, h2⟩ := hq
  subst hr
  have p_w := p_w.keep (V1 := V1) (fun k h8 h9 => h2 k (by omega))
  have p_z1 := p_z1.keep (V1 := V1) (fun k h8 h9 => h2 k (by omega))
  have p_x1 := p_x1.keep (V1 := V1) (fun k h8 h9 => h2 k (by omega))
  have p_u1 := p_u1.keep (V1 := V1) (fun k h8 h9 => h2 k (by omega))
  have p_z2 := p_z2.keep (V1 := V1) (fun k h8 h9 => h2 k (by omega))
  have p_x2 := p_x2.keep (V1 := V1) (fun k h8 h9 => h2 k (by omega))
  have p_u2 := p_u2.keep (V1 := V1) (fun k h8 h9 => h2 k (by omega))
  have p_tx := p_tx.keep (V1 := V1) (fun k h8 h9 => h2 k (by omega))
  have p_nu := p_nu.keep (V1 := V1) (fun k h8 h9 => h2 k (by omega))
  have p_y := p_y.keep (V1 := V1) (fun k h8 h9 => h2 k (by omega))
  refine lv_aload_n hx hb dL_law_161 rfl (lv_at hl 1 rfl) ?_
  refine lv_aload_n hx hb dL_law_162 rfl (lv_at hl 3 rfl) ?_
  refine lv_iload_n hx hb dL_law_163 rfl (lv_at hl 0 rfl) ?_
  refine lv_iconst (v := nI 1) hx hb dL_law_164 (by decide) ?_
  refine q_iadd hx hb dL_law_165 ?_
  refine va_sld hx hb hX hbl hbA hS (vp_in_nI (show i + 1 < L by omega) (by omega)) dL_law_166 ?_
  refine q_val (congrArg xs (nI_clamp (show i + 1 < 2 ^ 31 by omega))) ?_
  refine r_callM (As := [.int (xs (i + 1))]) (rest := [.int ((f_X5_addSite w so x u ho sg hs (xs (i + 1))).1)]) (ci := 6) X hP hS (c_X6_addSite (nn := nn) (mm := mm) (kk := kk) inj_z p_y (xs (i + 1)) hro.1 hro.2.1 hro.2.2.1 hn hm hro.2.2.2.1 hst) o_X6_addSite rfl p_y.lt p_y.ob m135 ⟨rfl, rfl⟩ ⟨Nat.le_of_ble_eq_true rfl, Nat.le_of_ble_eq_true rfl⟩ rfl hl.1 rfl (Nat.le_of_ble_eq_true rfl) ⟨Nat.le_of_ble_eq_true rfl, Nat.le_of_ble_eq_true rfl⟩ dL_law_167 (fun r V2 H2 locs2 hq hP hS => ?_)
  obtain ⟨hr, p_y, h2⟩ := hq
  subst hr
  have p_w := p_w.keep (V1 := V2) (fun k h8 h9 => h2 k (by omega))
  have p_so := p_so.keep (V1 := V2) (fun k h8 h9 => h2 k (by omega))
  have p_x := p_x.keep (V1 := V2) (fun k h8 h9 => h2 k (by omega))
  have p_u := p_u.keep (V1 := V2) (fun k h8 h9 => h2 k (by omega))
  have p_ho := p_ho.keep (V1 := V2) (fun k h8 h9 => h2 k (by omega))
  have p_sg := p_sg.keep (V1 := V2) (fun k h8 h9 => h2 k (by omega))
  have p_hs := p_hs.keep (V1 := V2) (fun k h8 h9 => h2 k (by omega))
  have p_z1 := p_z1.keep (V1 := V2) (fun k h8 h9 => h2 k (by omega))
  have p_x1 := p_x1.keep (V1 := V2) (fun k h8 h9 => h2 k (by omega))
  have p_u1 := p_u1.keep (V1 := V2) (fun k h8 h9 => h2 k (by omega))
  have p_z2 := p_z2.keep (V1 := V2) (fun k h8 h9 => h2 k (by omega))
  have p_x2 := p_x2.keep (V1 := V2) (fun k h8 h9 => h2 k (by omega))
  have p_u2 := p_u2.keep (V1 := V2) (fun k h8 h9 => h2 k (by omega))
  have p_tx := p_tx.keep (V1 := V2) (fun k h8 h9 => h2 k (by omega))
  have p_nu := p_nu.keep (V1 := V2) (fun k h8 h9 => h2 k (by omega))
  have hw := w_addSite (w := w) hrs hrh (xs (i + 1))
  refine lv_icmp_eq (tgt := 798) hx hb dL_law_170 (by decide) (fun _ => ?_) (fun q => absurd hw.1 q)
  have hR : Rel (w) ((f_X5_addSite w so x u ho sg hs (xs (i + 1))).2.1) ((f_X5_addSite w so x u ho sg hs (xs (i + 1))).2.2.1) ((f_X5_addSite w so x u ho sg hs (xs (i + 1))).2.2.2.1) ((f_X5_addSite w so x u ho sg hs (xs (i + 1))).2.2.2.2.1) ((f_X5_addSite w so x u ho sg hs (xs (i + 1))).2.2.2.2.2.1) ((f_X5_addSite w so x u ho sg hs (xs (i + 1))).2.2.2.2.2.2) (z2) (x2) (u2) (tx) ((f_X6_addSite y nn mm kk (xs (i + 1))).2) := ⟨hw.2.1, hw.2.2, (by rw [u_X6_addSite_0_5, u_X6_addSite_0_2]; exact hrq), (by rw [u_X6_addSite_0_7, u_X6_addSite_0_6]; exact hrt)⟩
  exact G (w) ((f_X5_addSite w so x u ho sg hs (xs (i + 1))).2.1) ((f_X5_addSite w so x u ho sg hs (xs (i + 1))).2.2.1) ((f_X5_addSite w so x u ho sg hs (xs (i + 1))).2.2.2.1) ((f_X5_addSite w so x u ho sg hs (xs (i + 1))).2.2.2.2.1) ((f_X5_addSite w so x u ho sg hs (xs (i + 1))).2.2.2.2.2.1) ((f_X5_addSite w so x u ho sg hs (xs (i + 1))).2.2.2.2.2.2) (z1) (x1) (u1) (z2) (x2) (u2) (tx) (nu) ((f_X6_addSite y nn mm kk (xs (i + 1))).2) V2 H2 locs2 ls hR ⟨p_w, p_so, p_x, p_u, p_ho, p_sg, p_hs, p_z1, p_x1, p_u1, p_z2, p_x2, p_u2, p_tx, p_nu, p_y⟩ hP hS hl
set_option maxHeartbeats 4000000 in
set_option maxRecDepth 100000 in
theorem law_addCustomer {p : Program} {l : Launch} {e : Env} {s : State} {m : MethodId} {below : List Frame} {meth : Method} {c : Code} {dd : va_G} {t : CL4} {z b L i : Nat} {xs : Nat → Int32} (hL : L ≤ 2048) (X : WX p s m #[Value.ref b] c cL_law 4 RL dd t) (hX : va_X b L xs s s.heap) (hbl : b < s.heap.size) (hbA : ¬ dm 412 (adz z) s.heap.size b) (hi : i + 4 ≤ L) (G : LGoal p l e s m below meth c dd t z b i 798) : LGoal p l e s m below meth c dd t z b i 175 := by
  intro w so x u ho sg hs z1 x1 u1 z2 x2 u2 tx nu y V H locs ls hrel hp hP hS hl
  obtain ⟨p_w, p_so, p_x, p_u, p_ho, p_sg, p_hs, p_z1, p_x1, p_u1, p_z2, p_x2, p_u2, p_tx, p_nu, p_y⟩ := hp
  obtain ⟨⟨nn, mm, kk, hrs⟩, hrh, hrq, hrt⟩ := id hrel
  have hx := X.1.1
  have hb := X.1.2.1
  have hro := hrs.row
  have hn := hrs.1.1.1
  have hm := hrs.1.1.2.1
  have hst := hrh.2.1
  have htl := hrt.2.1
  have hsg := hrh.2.2.1
  refine lv_aload_n hx hb dL_law_175 rfl (lv_at hl 2 rfl) ?_
  refine lv_aload_n hx hb dL_law_176 rfl (lv_at hl 3 rfl) ?_
  refine lv_iload_n hx hb dL_law_177 rfl (lv_at hl 0 rfl) ?_
  refine lv_iconst (v := nI 1) hx hb dL_law_178 (by decide) ?_
  refine q_iadd hx hb dL_law_179 ?_
  refine va_sld hx hb hX hbl hbA hS (vp_in_nI (show i + 1 < L by omega) (by omega)) dL_law_180 ?_
  refine q_val (congrArg xs (nI_clamp (show i + 1 < 2 ^ 31 by omega))) ?_
  refine r_callM (As := [.int (xs (i + 1))]) (rest := []) (ci := 5) X hP hS (c_X5_addCustomer inj_z p_w p_so p_x p_u p_ho p_sg p_hs (xs (i + 1)) hsg) o_X5_addCustomer rfl p_w.lt p_w.ob m159 ⟨rfl, rfl⟩ ⟨Nat.le_of_ble_eq_true rfl, Nat.le_of_ble_eq_true rfl⟩ rfl hl.1 rfl (Nat.le_of_ble_eq_true rfl) ⟨Nat.le_of_ble_eq_true rfl, Nat.le_of_ble_eq_true rfl⟩ dL_law_181 (fun r V1 H1 locs1 hq hP hS => ?_)
  obtain ⟨hr, p_so, p_x, p_u, p_ho, p_sg, p_hs, h2⟩ := hq
  subst hr
  have p_w := p_w.keep (V1 := V1) (fun k h8 h9 => h2 k (by omega))
  have p_z1 := p_z1.keep (V1 := V1) (fun k h8 h9 => h2 k (by omega))
  have p_x1 := p_x1.keep (V1 := V1) (fun k h8 h9 => h2 k (by omega))
  have p_u1 := p_u1.keep (V1 := V1) (fun k h8 h9 => h2 k (by omega))
  have p_z2 := p_z2.keep (V1 := V1) (fun k h8 h9 => h2 k (by omega))
  have p_x2 := p_x2.keep (V1 := V1) (fun k h8 h9 => h2 k (by omega))
  have p_u2 := p_u2.keep (V1 := V1) (fun k h8 h9 => h2 k (by omega))
  have p_tx := p_tx.keep (V1 := V1) (fun k h8 h9 => h2 k (by omega))
  have p_nu := p_nu.keep (V1 := V1) (fun k h8 h9 => h2 k (by omega))
  have p_y := p_y.keep (V1 := V1) (fun k h8 h9 => h2 k (by omega))
  refine lv_aload_n hx hb dL_law_184 rfl (lv_at hl 1 rfl) ?_
  refine lv_aload_n hx hb dL_law_185 rfl (lv_at hl 3 rfl) ?_
  refine lv_iload_n hx hb dL_law_186 rfl (lv_at hl 0 rfl) ?_
  refine lv_iconst (v := nI 1) hx hb dL_law_187 (by decide) ?_
  refine q_iadd hx hb dL_law_188 ?_
  refine va_sld hx hb hX hbl hbA hS (vp_in_nI (show i + 1 < L by omega) (by omega)) dL_law_189 ?_
  refine q_val (congrArg xs (nI_clamp (show i + 1 < 2 ^ 31 by omega))) ?_
  refine r_callM (As := [.int (xs (i + 1))]) (rest := [.int ((f_X5_addCustomer w so x u ho sg hs (xs (i + 1))).1)]) (ci := 6) X hP hS (c_X6_addCustomer (nn := nn) (mm := mm) (kk := kk) inj_z p_y (xs (i + 1)) hro.1 hro.2.1 hro.2.2.1 hn hm hro.2.2.2.1 hst) o_X6_addCustomer rfl p_y.lt p_y.ob m171 ⟨rfl, rfl⟩ ⟨Nat.le_of_ble_eq_true rfl, Nat.le_of_ble_eq_true rfl⟩ rfl hl.1 rfl (Nat.le_of_ble_eq_true rfl) ⟨Nat.le_of_ble_eq_true rfl, Nat.le_of_ble_eq_true rfl⟩ dL_law_190 (fun r V2 H2 locs2 hq hP hS => ?_)
  obtain ⟨hr, p_y, h2⟩ := hq
  subst hr
  have p_w := p_w.keep (V1 := V2) (fun k h8 h9 => h2 k (by omega))
  have p_so := p_so.keep (V1 := V2) (fun k h8 h9 => h2 k (by omega))
  have p_x := p_x.keep (V1 := V2) (fun k h8 h9 => h2 k (by omega))
  have p_u := p_u.keep (V1 := V2) (fun k h8 h9 => h2 k (by omega))
  have p_ho := p_ho.keep (V1 := V2) (fun k h8 h9 => h2 k (by omega))
  have p_sg := p_sg.keep (V1 := V2) (fun k h8 h9 => h2 k (by omega))
  have p_hs := p_hs.keep (V1 := V2) (fun k h8 h9 => h2 k (by omega))
  have p_z1 := p_z1.keep (V1 := V2) (fun k h8 h9 => h2 k (by omega))
  have p_x1 := p_x1.keep (V1 := V2) (fun k h8 h9 => h2 k (by omega))
  have p_u1 := p_u1.keep (V1 := V2) (fun k h8 h9 => h2 k (by omega))
  have p_z2 := p_z2.keep (V1 := V2) (fun k h8 h9 => h2 k (by omega))
  have p_x2 := p_x2.keep (V1 := V2) (fun k h8 h9 => h2 k (by omega))
  have p_u2 := p_u2.keep (V1 := V2) (fun k h8 h9 => h2 k (by omega))
  have p_tx := p_tx.keep (V1 := V2) (fun k h8 h9 => h2 k (by omega))
  have p_nu := p_nu.keep (V1 := V2) (fun k h8 h9 => h2 k (by omega))
  have hw := w_addCustomer (w := w) hrs hrh (xs (i + 1))
  refine lv_icmp_eq (tgt := 798) hx hb dL_law_193 (by decide) (fun _ => ?_) (fun q => absurd hw.1 q)
  have hR : Rel (w) ((f_X5_addCustomer w so x u ho sg hs (xs (i + 1))).2.1) ((f_X5_addCustomer w so x u ho sg hs (xs (i + 1))).2.2.1) ((f_X5_addCustomer w so x u ho sg hs (xs (i + 1))).2.2.2.1) ((f_X5_addCustomer w so x u ho sg hs (xs (i + 1))).2.2.2.2.1) ((f_X5_addCustomer w so x u ho sg hs (xs (i + 1))).2.2.2.2.2.1) ((f_X5_addCustomer w so x u ho sg hs (xs (i + 1))).2.2.2.2.2.2) (z2) (x2) (u2) (tx) ((f_X6_addCustomer y nn mm kk (xs (i + 1))).2) := ⟨hw.2.1, hw.2.2, (by rw [u_X6_addCustomer_0_5, u_X6_addCustomer_0_2]; exact hrq), (by rw [u_X6_addCustomer_0_7, u_X6_addCustomer_0_6]; exact hrt)⟩
  exact G (w) ((f_X5_addCustomer w so x u ho sg hs (xs (i + 1))).2.1) ((f_X5_addCustomer w so x u ho sg hs (xs (i + 1))).2.2.1) ((f_X5_addCustomer w so x u ho sg hs (xs (i + 1))).2.2.2.1) ((f_X5_addCustomer w so x u ho sg hs (xs (i + 1))).2.2.2.2.1) ((f_X5_addCustomer w so x u ho sg hs (xs (i + 1))).2.2.2.2.2.1) ((f_X5_addCustomer w so x u ho sg hs (xs (i + 1))).2.2.2.2.2.2) (z1) (x1) (u1) (z2) (x2) (u2) (tx) (nu) ((f_X6_addCustomer y nn mm kk (xs (i + 1))).2) V2 H2 locs2 ls hR ⟨p_w, p_so, p_x, p_u, p_ho, p_sg, p_hs, p_z1, p_x1, p_u1, p_z2, p_x2, p_u2, p_tx, p_nu, p_y⟩ hP hS hl
set_option maxHeartbeats 4000000 in
set_option maxRecDepth 100000 in
theorem law_setPrice {p : Program} {l : Launch} {e : Env} {s : State} {m : MethodId} {below : List Frame} {meth : Method} {c : Code} {dd : va_G} {t : CL4} {z b L i : Nat} {xs : Nat → Int32} (hL : L ≤ 2048) (X : WX p s m #[Value.ref b] c cL_law 4 RL dd t) (hX : va_X b L xs s s.heap) (hbl : b < s.heap.size) (hbA : ¬ dm 412 (adz z) s.heap.size b) (hi : i + 4 ≤ L) (G : LGoal p l e s m below meth c dd t z b i 798) : LGoal p l e s m below meth c dd t z b i 198 := by
  intro w so x u ho sg hs z1 x1 u1 z2 x2 u2 tx nu y V H locs ls hrel hp hP hS hl
  obtain ⟨p_w, p_so, p_x, p_u, p_ho, p_sg, p_hs, p_z1, p_x1, p_u1, p_z2, p_x2, p_u2, p_tx, p_nu, p_y⟩ := hp
  obtain ⟨⟨nn, mm, kk, hrs⟩, hrh, hrq, hrt⟩ := id hrel
  have hx := X.1.1
  have hb := X.1.2.1
  have hro := hrs.row
  have hn := hrs.1.1.1
  have hm := hrs.1.1.2.1
  have hst := hrh.2.1
  have htl := hrt.2.1
  have hsg := hrh.2.2.1
  refine lv_aload_n hx hb dL_law_198 rfl (lv_at hl 2 rfl) ?_
  refine lv_aload_n hx hb dL_law_199 rfl (lv_at hl 3 rfl) ?_
  refine lv_iload_n hx hb dL_law_200 rfl (lv_at hl 0 rfl) ?_
  refine lv_iconst (v := nI 1) hx hb dL_law_201 (by decide) ?_
  refine q_iadd hx hb dL_law_202 ?_
  refine va_sld hx hb hX hbl hbA hS (vp_in_nI (show i + 1 < L by omega) (by omega)) dL_law_203 ?_
  refine q_val (congrArg xs (nI_clamp (show i + 1 < 2 ^ 31 by omega))) ?_
  refine lv_aload_n hx hb dL_law_204 rfl (lv_at hl 3 rfl) ?_
  refine lv_iload_n hx hb dL_law_205 rfl (lv_at hl 0 rfl) ?_
  refine lv_iconst (v := nI 2) hx hb dL_law_206 (by decide) ?_
  refine q_iadd hx hb dL_law_207 ?_
  refine va_sld hx hb hX hbl hbA hS (vp_in_nI (show i + 2 < L by omega) (by omega)) dL_law_208 ?_
  refine q_val (congrArg xs (nI_clamp (show i + 2 < 2 ^ 31 by omega))) ?_
  refine r_callM (As := [.int (xs (i + 1)), .int (xs (i + 2))]) (rest := []) (ci := 5) X hP hS (c_X5_setPrice inj_z p_w p_so p_x p_u p_ho p_sg p_hs (xs (i + 1)) (xs (i + 2)) hsg) o_X5_setPrice rfl p_w.lt p_w.ob m175 ⟨rfl, rfl⟩ ⟨Nat.le_of_ble_eq_true rfl, Nat.le_of_ble_eq_true rfl⟩ rfl hl.1 rfl (Nat.le_of_ble_eq_true rfl) ⟨Nat.le_of_ble_eq_true rfl, Nat.le_of_ble_eq_true rfl⟩ dL_law_209 (fun r V1 H1 locs1 hq hP hS => ?_)
  obtain ⟨hr, p_so, p_x, p_u, p_ho, p_sg, p_hs, h2⟩ := hq
  subst hr
  have p_w := p_w.keep (V1 := V1) (fun k h8 h9 => h2 k (by omega))
  have p_z1 := p_z1.keep (V1 := V1) (fun k h8 h9 => h2 k (by omega))
  have p_x1 := p_x1.keep (V1 := V1) (fun k h8 h9 => h2 k (by omega))
  have p_u1 := p_u1.keep (V1 := V1) (fun k h8 h9 => h2 k (by omega))
  have p_z2 := p_z2.keep (V1 := V1) (fun k h8 h9 => h2 k (by omega))
  have p_x2 := p_x2.keep (V1 := V1) (fun k h8 h9 => h2 k (by omega))
  have p_u2 := p_u2.keep (V1 := V1) (fun k h8 h9 => h2 k (by omega))
  have p_tx := p_tx.keep (V1 := V1) (fun k h8 h9 => h2 k (by omega))
  have p_nu := p_nu.keep (V1 := V1) (fun k h8 h9 => h2 k (by omega))
  have p_y := p_y.keep (V1 := V1) (fun k h8 h9 => h2 k (by omega))
  refine lv_aload_n hx hb dL_law_212 rfl (lv_at hl 1 rfl) ?_
  refine lv_aload_n hx hb dL_law_213 rfl (lv_at hl 3 rfl) ?_
  refine lv_iload_n hx hb dL_law_214 rfl (lv_at hl 0 rfl) ?_
  refine lv_iconst (v := nI 1) hx hb dL_law_215 (by decide) ?_
  refine q_iadd hx hb dL_law_216 ?_
  refine va_sld hx hb hX hbl hbA hS (vp_in_nI (show i + 1 < L by omega) (by omega)) dL_law_217 ?_
  refine q_val (congrArg xs (nI_clamp (show i + 1 < 2 ^ 31 by omega))) ?_
  refine lv_aload_n hx hb dL_law_218 rfl (lv_at hl 3 rfl) ?_
  refine lv_iload_n hx hb dL_law_219 rfl (lv_at hl 0 rfl) ?_
  refine lv_iconst (v := nI 2) hx hb dL_law_220 (by decide) ?_
  refine q_iadd hx hb dL_law_221 ?_
  refine va_sld hx hb hX hbl hbA hS (vp_in_nI (show i + 2 < L by omega) (by omega)) dL_law_222 ?_
  refine q_val (congrArg xs (nI_clamp (show i + 2 < 2 ^ 31 by omega))) ?_
  refine r_callM (As := [.int (xs (i + 1)), .int (xs (i + 2))]) (rest := [.int ((f_X5_setPrice w so x u ho sg hs (xs (i + 1)) (xs (i + 2))).1)]) (ci := 6) X hP hS (c_X6_setPrice (nn := nn) (mm := mm) (kk := kk) inj_z p_y (xs (i + 1)) (xs (i + 2)) hro.1 hro.2.1 hro.2.2.1 hn hm hro.2.2.2.1 hst) o_X6_setPrice rfl p_y.lt p_y.ob m184 ⟨rfl, rfl⟩ ⟨Nat.le_of_ble_eq_true rfl, Nat.le_of_ble_eq_true rfl⟩ rfl hl.1 rfl (Nat.le_of_ble_eq_true rfl) ⟨Nat.le_of_ble_eq_true rfl, Nat.le_of_ble_eq_true rfl⟩ dL_law_223 (fun r V2 H2 locs2 hq hP hS => ?_)
  obtain ⟨hr, p_y, h2⟩ := hq
  subst hr
  have p_w := p_w.keep (V1 := V2) (fun k h8 h9 => h2 k (by omega))
  have p_so := p_so.keep (V1 := V2) (fun k h8 h9 => h2 k (by omega))
  have p_x := p_x.keep (V1 := V2) (fun k h8 h9 => h2 k (by omega))
  have p_u := p_u.keep (V1 := V2) (fun k h8 h9 => h2 k (by omega))
  have p_ho := p_ho.keep (V1 := V2) (fun k h8 h9 => h2 k (by omega))
  have p_sg := p_sg.keep (V1 := V2) (fun k h8 h9 => h2 k (by omega))
  have p_hs := p_hs.keep (V1 := V2) (fun k h8 h9 => h2 k (by omega))
  have p_z1 := p_z1.keep (V1 := V2) (fun k h8 h9 => h2 k (by omega))
  have p_x1 := p_x1.keep (V1 := V2) (fun k h8 h9 => h2 k (by omega))
  have p_u1 := p_u1.keep (V1 := V2) (fun k h8 h9 => h2 k (by omega))
  have p_z2 := p_z2.keep (V1 := V2) (fun k h8 h9 => h2 k (by omega))
  have p_x2 := p_x2.keep (V1 := V2) (fun k h8 h9 => h2 k (by omega))
  have p_u2 := p_u2.keep (V1 := V2) (fun k h8 h9 => h2 k (by omega))
  have p_tx := p_tx.keep (V1 := V2) (fun k h8 h9 => h2 k (by omega))
  have p_nu := p_nu.keep (V1 := V2) (fun k h8 h9 => h2 k (by omega))
  have hw := w_setPrice (w := w) hrs hrh (xs (i + 1)) (xs (i + 2))
  refine lv_icmp_eq (tgt := 798) hx hb dL_law_226 (by decide) (fun _ => ?_) (fun q => absurd hw.1 q)
  have hR : Rel (w) ((f_X5_setPrice w so x u ho sg hs (xs (i + 1)) (xs (i + 2))).2.1) ((f_X5_setPrice w so x u ho sg hs (xs (i + 1)) (xs (i + 2))).2.2.1) ((f_X5_setPrice w so x u ho sg hs (xs (i + 1)) (xs (i + 2))).2.2.2.1) ((f_X5_setPrice w so x u ho sg hs (xs (i + 1)) (xs (i + 2))).2.2.2.2.1) ((f_X5_setPrice w so x u ho sg hs (xs (i + 1)) (xs (i + 2))).2.2.2.2.2.1) ((f_X5_setPrice w so x u ho sg hs (xs (i + 1)) (xs (i + 2))).2.2.2.2.2.2) (z2) (x2) (u2) (tx) ((f_X6_setPrice y nn mm kk (xs (i + 1)) (xs (i + 2))).2) := ⟨hw.2.1, hw.2.2, (by rw [u_X6_setPrice_0_5, u_X6_setPrice_0_2]; exact hrq), (by rw [u_X6_setPrice_0_7, u_X6_setPrice_0_6]; exact hrt)⟩
  exact G (w) ((f_X5_setPrice w so x u ho sg hs (xs (i + 1)) (xs (i + 2))).2.1) ((f_X5_setPrice w so x u ho sg hs (xs (i + 1)) (xs (i + 2))).2.2.1) ((f_X5_setPrice w so x u ho sg hs (xs (i + 1)) (xs (i + 2))).2.2.2.1) ((f_X5_setPrice w so x u ho sg hs (xs (i + 1)) (xs (i + 2))).2.2.2.2.1) ((f_X5_setPrice w so x u ho sg hs (xs (i + 1)) (xs (i + 2))).2.2.2.2.2.1) ((f_X5_setPrice w so x u ho sg hs (xs (i + 1)) (xs (i + 2))).2.2.2.2.2.2) (z1) (x1) (u1) (z2) (x2) (u2) (tx) (nu) ((f_X6_setPrice y nn mm kk (xs (i + 1)) (xs (i + 2))).2) V2 H2 locs2 ls hR ⟨p_w, p_so, p_x, p_u, p_ho, p_sg, p_hs, p_z1, p_x1, p_u1, p_z2, p_x2, p_u2, p_tx, p_nu, p_y⟩ hP hS hl
set_option maxHeartbeats 4000000 in
set_option maxRecDepth 100000 in
theorem law_setDemand {p : Program} {l : Launch} {e : Env} {s : State} {m : MethodId} {below : List Frame} {meth : Method} {c : Code} {dd : va_G} {t : CL4} {z b L i : Nat} {xs : Nat → Int32} (hL : L ≤ 2048) (X : WX p s m #[Value.ref b] c cL_law 4 RL dd t) (hX : va_X b L xs s s.heap) (hbl : b < s.heap.size) (hbA : ¬ dm 412 (adz z) s.heap.size b) (hi : i + 4 ≤ L) (G : LGoal p l e s m below meth c dd t z b i 798) : LGoal p l e s m below meth c dd t z b i 231 := by
  intro w so x u ho sg hs z1 x1 u1 z2 x2 u2 tx nu y V H locs ls hrel hp hP hS hl
  obtain ⟨p_w, p_so, p_x, p_u, p_ho, p_sg, p_hs, p_z1, p_x1, p_u1, p_z2, p_x2, p_u2, p_tx, p_nu, p_y⟩ := hp
  obtain ⟨⟨nn, mm, kk, hrs⟩, hrh, hrq, hrt⟩ := id hrel
  have hx := X.1.1
  have hb := X.1.2.1
  have hro := hrs.row
  have hn := hrs.1.1.1
  have hm := hrs.1.1.2.1
  have hst := hrh.2.1
  have htl := hrt.2.1
  have hsg := hrh.2.2.1
  refine lv_aload_n hx hb dL_law_231 rfl (lv_at hl 2 rfl) ?_
  refine lv_aload_n hx hb dL_law_232 rfl (lv_at hl 3 rfl) ?_
  refine lv_iload_n hx hb dL_law_233 rfl (lv_at hl 0 rfl) ?_
  refine lv_iconst (v := nI 1) hx hb dL_law_234 (by decide) ?_
  refine q_iadd hx hb dL_law_235 ?_
  refine va_sld hx hb hX hbl hbA hS (vp_in_nI (show i + 1 < L by omega) (by omega)) dL_law_236 ?_
  refine q_val (congrArg xs (nI_clamp (show i + 1 < 2 ^ 31 by omega))) ?_
  refine lv_aload_n hx hb dL_law_237 rfl (lv_at hl 3 rfl) ?_
  refine lv_iload_n hx hb dL_law_238 rfl (lv_at hl 0 rfl) ?_
  refine lv_iconst (v := nI 2) hx hb dL_law_239 (by decide) ?_
  refine q_iadd hx hb dL_law_240 ?_
  refine va_sld hx hb hX hbl hbA hS (vp_in_nI (show i + 2 < L by omega) (by omega)) dL_law_241 ?_
  refine q_val (congrArg xs (nI_clamp (show i + 2 < 2 ^ 31 by omega))) ?_
  refine r_callM (As := [.int (xs (i + 1)), .int (xs (i + 2))]) (rest := []) (ci := 5) X hP hS (c_X5_setDemand inj_z p_w p_so p_x p_u p_ho p_sg p_hs (xs (i + 1)) (xs (i + 2)) hsg) o_X5_setDemand rfl p_w.lt p_w.ob m196 ⟨rfl, rfl⟩ ⟨Nat.le_of_ble_eq_true rfl, Nat.le_of_ble_eq_true rfl⟩ rfl hl.1 rfl (Nat.le_of_ble_eq_true rfl) ⟨Nat.le_of_ble_eq_true rfl, Nat.le_of_ble_eq_true rfl⟩ dL_law_242 (fun r V1 H1 locs1 hq hP hS => ?_)
  obtain ⟨hr, p_so, p_x, p_u, p_ho, p_sg, p_hs, h2⟩ := hq
  subst hr
  have p_w := p_w.keep (V1 := V1) (fun k h8 h9 => h2 k (by omega))
  have p_z1 := p_z1.keep (V1 := V1) (fun k h8 h9 => h2 k (by omega))
  have p_x1 := p_x1.keep (V1 := V1) (fun k h8 h9 => h2 k (by omega))
  have p_u1 := p_u1.keep (V1 := V1) (fun k h8 h9 => h2 k (by omega))
  have p_z2 := p_z2.keep (V1 := V1) (fun k h8 h9 => h2 k (by omega))
  have p_x2 := p_x2.keep (V1 := V1) (fun k h8 h9 => h2 k (by omega))
  have p_u2 := p_u2.keep (V1 := V1) (fun k h8 h9 => h2 k (by omega))
  have p_tx := p_tx.keep (V1 := V1) (fun k h8 h9 => h2 k (by omega))
  have p_nu := p_nu.keep (V1 := V1) (fun k h8 h9 => h2 k (by omega))
  have p_y := p_y.keep (V1 := V1) (fun k h8 h9 => h2 k (by omega))
  refine lv_aload_n hx hb dL_law_245 rfl (lv_at hl 1 rfl) ?_
  refine lv_aload_n hx hb dL_law_246 rfl (lv_at hl 3 rfl) ?_
  refine lv_iload_n hx hb dL_law_247 rfl (lv_at hl 0 rfl) ?_
  refine lv_iconst (v := nI 1) hx hb dL_law_248 (by decide) ?_
  refine q_iadd hx hb dL_law_249 ?_
  refine va_sld hx hb hX hbl hbA hS (vp_in_nI (show i + 1 < L by omega) (by omega)) dL_law_250 ?_
  refine q_val (congrArg xs (nI_clamp (show i + 1 < 2 ^ 31 by omega))) ?_
  refine lv_aload_n hx hb dL_law_251 rfl (lv_at hl 3 rfl) ?_
  refine lv_iload_n hx hb dL_law_252 rfl (lv_at hl 0 rfl) ?_
  refine lv_iconst (v := nI 2) hx hb dL_law_253 (by decide) ?_
  refine q_iadd hx hb dL_law_254 ?_
  refine va_sld hx hb hX hbl hbA hS (vp_in_nI (show i + 2 < L by omega) (by omega)) dL_law_255 ?_
  refine q_val (congrArg xs (nI_clamp (show i + 2 < 2 ^ 31 by omega))) ?_
  refine r_callM (As := [.int (xs (i + 1)), .int (xs (i + 2))]) (rest := [.int ((f_X5_setDemand w so x u ho sg hs (xs (i + 1)) (xs (i + 2))).1)]) (ci := 6) X hP hS (c_X6_setDemand (nn := nn) (mm := mm) (kk := kk) inj_z p_y (xs (i + 1)) (xs (i + 2)) hro.1 hro.2.1 hro.2.2.1 hn hm hro.2.2.2.1 hst) o_X6_setDemand rfl p_y.lt p_y.ob m205 ⟨rfl, rfl⟩ ⟨Nat.le_of_ble_eq_true rfl, Nat.le_of_ble_eq_true rfl⟩ rfl hl.1 rfl (Nat.le_of_ble_eq_true rfl) ⟨Nat.le_of_ble_eq_true rfl, Nat.le_of_ble_eq_true rfl⟩ dL_law_256 (fun r V2 H2 locs2 hq hP hS => ?_)
  obtain ⟨hr, p_y, h2⟩ := hq
  subst hr
  have p_w := p_w.keep (V1 := V2) (fun k h8 h9 => h2 k (by omega))
  have p_so := p_so.keep (V1 := V2) (fun k h8 h9 => h2 k (by omega))
  have p_x := p_x.keep (V1 := V2) (fun k h8 h9 => h2 k (by omega))
  have p_u := p_u.keep (V1 := V2) (fun k h8 h9 => h2 k (by omega))
  have p_ho := p_ho.keep (V1 := V2) (fun k h8 h9 => h2 k (by omega))
  have p_sg := p_sg.keep (V1 := V2) (fun k h8 h9 => h2 k (by omega))
  have p_hs := p_hs.keep (V1 := V2) (fun k h8 h9 => h2 k (by omega))
  have p_z1 := p_z1.keep (V1 := V2) (fun k h8 h9 => h2 k (by omega))
  have p_x1 := p_x1.keep (V1 := V2) (fun k h8 h9 => h2 k (by omega))
  have p_u1 := p_u1.keep (V1 := V2) (fun k h8 h9 => h2 k (by omega))
  have p_z2 := p_z2.keep (V1 := V2) (fun k h8 h9 => h2 k (by omega))
  have p_x2 := p_x2.keep (V1 := V2) (fun k h8 h9 => h2 k (by omega))
  have p_u2 := p_u2.keep (V1 := V2) (fun k h8 h9 => h2 k (by omega))
  have p_tx := p_tx.keep (V1 := V2) (fun k h8 h9 => h2 k (by omega))
  have p_nu := p_nu.keep (V1 := V2) (fun k h8 h9 => h2 k (by omega))
  have hw := w_setDemand (w := w) hrs hrh (xs (i + 1)) (xs (i + 2))
  refine lv_icmp_eq (tgt := 798) hx hb dL_law_259 (by decide) (fun _ => ?_) (fun q => absurd hw.1 q)
  have hR : Rel (w) ((f_X5_setDemand w so x u ho sg hs (xs (i + 1)) (xs (i + 2))).2.1) ((f_X5_setDemand w so x u ho sg hs (xs (i + 1)) (xs (i + 2))).2.2.1) ((f_X5_setDemand w so x u ho sg hs (xs (i + 1)) (xs (i + 2))).2.2.2.1) ((f_X5_setDemand w so x u ho sg hs (xs (i + 1)) (xs (i + 2))).2.2.2.2.1) ((f_X5_setDemand w so x u ho sg hs (xs (i + 1)) (xs (i + 2))).2.2.2.2.2.1) ((f_X5_setDemand w so x u ho sg hs (xs (i + 1)) (xs (i + 2))).2.2.2.2.2.2) (z2) (x2) (u2) (tx) ((f_X6_setDemand y nn mm kk (xs (i + 1)) (xs (i + 2))).2) := ⟨hw.2.1, hw.2.2, (by rw [u_X6_setDemand_0_5, u_X6_setDemand_0_2]; exact hrq), (by rw [u_X6_setDemand_0_7, u_X6_setDemand_0_6]; exact hrt)⟩
  exact G (w) ((f_X5_setDemand w so x u ho sg hs (xs (i + 1)) (xs (i + 2))).2.1) ((f_X5_setDemand w so x u ho sg hs (xs (i + 1)) (xs (i + 2))).2.2.1) ((f_X5_setDemand w so x u ho sg hs (xs (i + 1)) (xs (i + 2))).2.2.2.1) ((f_X5_setDemand w so x u ho sg hs (xs (i + 1)) (xs (i + 2))).2.2.2.2.1) ((f_X5_setDemand w so x u ho sg hs (xs (i + 1)) (xs (i + 2))).2.2.2.2.2.1) ((f_X5_setDemand w so x u ho sg hs (xs (i + 1)) (xs (i + 2))).2.2.2.2.2.2) (z1) (x1) (u1) (z2) (x2) (u2) (tx) (nu) ((f_X6_setDemand y nn mm kk (xs (i + 1)) (xs (i + 2))).2) V2 H2 locs2 ls hR ⟨p_w, p_so, p_x, p_u, p_ho, p_sg, p_hs, p_z1, p_x1, p_u1, p_z2, p_x2, p_u2, p_tx, p_nu, p_y⟩ hP hS hl
set_option maxHeartbeats 4000000 in
set_option maxRecDepth 100000 in
theorem law_setRoute {p : Program} {l : Launch} {e : Env} {s : State} {m : MethodId} {below : List Frame} {meth : Method} {c : Code} {dd : va_G} {t : CL4} {z b L i : Nat} {xs : Nat → Int32} (hL : L ≤ 2048) (X : WX p s m #[Value.ref b] c cL_law 4 RL dd t) (hX : va_X b L xs s s.heap) (hbl : b < s.heap.size) (hbA : ¬ dm 412 (adz z) s.heap.size b) (hi : i + 4 ≤ L) (G : LGoal p l e s m below meth c dd t z b i 798) : LGoal p l e s m below meth c dd t z b i 264 := by
  intro w so x u ho sg hs z1 x1 u1 z2 x2 u2 tx nu y V H locs ls hrel hp hP hS hl
  obtain ⟨p_w, p_so, p_x, p_u, p_ho, p_sg, p_hs, p_z1, p_x1, p_u1, p_z2, p_x2, p_u2, p_tx, p_nu, p_y⟩ := hp
  obtain ⟨⟨nn, mm, kk, hrs⟩, hrh, hrq, hrt⟩ := id hrel
  have hx := X.1.1
  have hb := X.1.2.1
  have hro := hrs.row
  have hn := hrs.1.1.1
  have hm := hrs.1.1.2.1
  have hst := hrh.2.1
  have htl := hrt.2.1
  have hsg := hrh.2.2.1
  refine lv_aload_n hx hb dL_law_264 rfl (lv_at hl 2 rfl) ?_
  refine lv_aload_n hx hb dL_law_265 rfl (lv_at hl 3 rfl) ?_
  refine lv_iload_n hx hb dL_law_266 rfl (lv_at hl 0 rfl) ?_
  refine lv_iconst (v := nI 1) hx hb dL_law_267 (by decide) ?_
  refine q_iadd hx hb dL_law_268 ?_
  refine va_sld hx hb hX hbl hbA hS (vp_in_nI (show i + 1 < L by omega) (by omega)) dL_law_269 ?_
  refine q_val (congrArg xs (nI_clamp (show i + 1 < 2 ^ 31 by omega))) ?_
  refine lv_aload_n hx hb dL_law_270 rfl (lv_at hl 3 rfl) ?_
  refine lv_iload_n hx hb dL_law_271 rfl (lv_at hl 0 rfl) ?_
  refine lv_iconst (v := nI 2) hx hb dL_law_272 (by decide) ?_
  refine q_iadd hx hb dL_law_273 ?_
  refine va_sld hx hb hX hbl hbA hS (vp_in_nI (show i + 2 < L by omega) (by omega)) dL_law_274 ?_
  refine q_val (congrArg xs (nI_clamp (show i + 2 < 2 ^ 31 by omega))) ?_
  refine lv_aload_n hx hb dL_law_275 rfl (lv_at hl 3 rfl) ?_
  refine lv_iload_n hx hb dL_law_276 rfl (lv_at hl 0 rfl) ?_
  refine lv_iconst (v := nI 3) hx hb dL_law_277 (by decide) ?_
  refine q_iadd hx hb dL_law_278 ?_
  refine va_sld hx hb hX hbl hbA hS (vp_in_nI (show i + 3 < L by omega) (by omega)) dL_law_279 ?_
  refine q_val (congrArg xs (nI_clamp (show i + 3 < 2 ^ 31 by omega))) ?_
  refine r_callM (As := [.int (xs (i + 1)), .int (xs (i + 2)), .int (xs (i + 3))]) (rest := []) (ci := 5) X hP hS (c_X5_setRoute inj_z p_w p_so p_x p_u p_ho p_sg p_hs (xs (i + 1)) (xs (i + 2)) (xs (i + 3)) hsg) o_X5_setRoute rfl p_w.lt p_w.ob m213 ⟨rfl, rfl⟩ ⟨Nat.le_of_ble_eq_true rfl, Nat.le_of_ble_eq_true rfl⟩ rfl hl.1 rfl (Nat.le_of_ble_eq_true rfl) ⟨Nat.le_of_ble_eq_true rfl, Nat.le_of_ble_eq_true rfl⟩ dL_law_280 (fun r V1 H1 locs1 hq hP hS => ?_)
  obtain ⟨hr, p_so, p_x, p_u, p_ho, p_sg, p_hs, h2⟩ := hq
  subst hr
  have p_w := p_w.keep (V1 := V1) (fun k h8 h9 => h2 k (by omega))
  have p_z1 := p_z1.keep (V1 := V1) (fun k h8 h9 => h2 k (by omega))
  have p_x1 := p_x1.keep (V1 := V1) (fun k h8 h9 => h2 k (by omega))
  have p_u1 := p_u1.keep (V1 := V1) (fun k h8 h9 => h2 k (by omega))
  have p_z2 := p_z2.keep (V1 := V1) (fun k h8 h9 => h2 k (by omega))
  have p_x2 := p_x2.keep (V1 := V1) (fun k h8 h9 => h2 k (by omega))
  have p_u2 := p_u2.keep (V1 := V1) (fun k h8 h9 => h2 k (by omega))
  have p_tx := p_tx.keep (V1 := V1) (fun k h8 h9 => h2 k (by omega))
  have p_nu := p_nu.keep (V1 := V1) (fun k h8 h9 => h2 k (by omega))
  have p_y := p_y.keep (V1 := V1) (fun k h8 h9 => h2 k (by omega))
  refine lv_aload_n hx hb dL_law_283 rfl (lv_at hl 1 rfl) ?_
  refine lv_aload_n hx hb dL_law_284 rfl (lv_at hl 3 rfl) ?_
  refine lv_iload_n hx hb dL_law_285 rfl (lv_at hl 0 rfl) ?_
  refine lv_iconst (v := nI 1) hx hb dL_law_286 (by decide) ?_
  refine q_iadd hx hb dL_law_287 ?_
  refine va_sld hx hb hX hbl hbA hS (vp_in_nI (show i + 1 < L by omega) (by omega)) dL_law_288 ?_
  refine q_val (congrArg xs (nI_clamp (show i + 1 < 2 ^ 31 by omega))) ?_
  refine lv_aload_n hx hb dL_law_289 rfl (lv_at hl 3 rfl) ?_
  refine lv_iload_n hx hb dL_law_290 rfl (lv_at hl 0 rfl) ?_
  refine lv_iconst (v := nI 2) hx hb dL_law_291 (by decide) ?_
  refine q_iadd hx hb dL_law_292 ?_
  refine va_sld hx hb hX hbl hbA hS (vp_in_nI (show i + 2 < L by omega) (by omega)) dL_law_293 ?_
  refine q_val (congrArg xs (nI_clamp (show i + 2 < 2 ^ 31 by omega))) ?_
  refine lv_aload_n hx hb dL_law_294 rfl (lv_at hl 3 rfl) ?_
  refine lv_iload_n hx hb dL_law_295 rfl (lv_at hl 0 rfl) ?_
  refine lv_iconst (v := nI 3) hx hb dL_law_296 (by decide) ?_
  refine q_iadd hx hb dL_law_297 ?_
  refine va_sld hx hb hX hbl hbA hS (vp_in_nI (show i + 3 < L by omega) (by omega)) dL_law_298 ?_
  refine q_val (congrArg xs (nI_clamp (show i + 3 < 2 ^ 31 by omega))) ?_
  refine r_callM (As := [.int (xs (i + 1)), .int (xs (i + 2)), .int (xs (i + 3))]) (rest := [.int ((f_X5_setRoute w so x u ho sg hs (xs (i + 1)) (xs (i + 2)) (xs (i + 3))).1)]) (ci := 6) X hP hS (c_X6_setRoute (nn := nn) (mm := mm) (kk := kk) inj_z p_y (xs (i + 1)) (xs (i + 2)) (xs (i + 3)) hro.1 hro.2.1 hro.2.2.1 hn hm hro.2.2.2.1 hst) o_X6_setRoute rfl p_y.lt p_y.ob m218 ⟨rfl, rfl⟩ ⟨Nat.le_of_ble_eq_true rfl, Nat.le_of_ble_eq_true rfl⟩ rfl hl.1 rfl (Nat.le_of_ble_eq_true rfl) ⟨Nat.le_of_ble_eq_true rfl, Nat.le_of_ble_eq_true rfl⟩ dL_law_299 (fun r V2 H2 locs2 hq hP hS => ?_)
  obtain ⟨hr, p_y, h2⟩ := hq
  subst hr
  have p_w := p_w.keep (V1 := V2) (fun k h8 h9 => h2 k (by omega))
  have p_so := p_so.keep (V1 := V2) (fun k h8 h9 => h2 k (by omega))
  have p_x := p_x.keep (V1 := V2) (fun k h8 h9 => h2 k (by omega))
  have p_u := p_u.keep (V1 := V2) (fun k h8 h9 => h2 k (by omega))
  have p_ho := p_ho.keep (V1 := V2) (fun k h8 h9 => h2 k (by omega))
  have p_sg := p_sg.keep (V1 := V2) (fun k h8 h9 => h2 k (by omega))
  have p_hs := p_hs.keep (V1 := V2) (fun k h8 h9 => h2 k (by omega))
  have p_z1 := p_z1.keep (V1 := V2) (fun k h8 h9 => h2 k (by omega))
  have p_x1 := p_x1.keep (V1 := V2) (fun k h8 h9 => h2 k (by omega))
  have p_u1 := p_u1.keep (V1 := V2) (fun k h8 h9 => h2 k (by omega))
  have p_z2 := p_z2.keep (V1 := V2) (fun k h8 h9 => h2 k (by omega))
  have p_x2 := p_x2.keep (V1 := V2) (fun k h8 h9 => h2 k (by omega))
  have p_u2 := p_u2.keep (V1 := V2) (fun k h8 h9 => h2 k (by omega))
  have p_tx := p_tx.keep (V1 := V2) (fun k h8 h9 => h2 k (by omega))
  have p_nu := p_nu.keep (V1 := V2) (fun k h8 h9 => h2 k (by omega))
  have hw := w_setRoute (w := w) hrs hrh (xs (i + 1)) (xs (i + 2)) (xs (i + 3))
  refine lv_icmp_eq (tgt := 798) hx hb dL_law_302 (by decide) (fun _ => ?_) (fun q => absurd hw.1 q)
  have hR : Rel (w) ((f_X5_setRoute w so x u ho sg hs (xs (i + 1)) (xs (i + 2)) (xs (i + 3))).2.1) ((f_X5_setRoute w so x u ho sg hs (xs (i + 1)) (xs (i + 2)) (xs (i + 3))).2.2.1) ((f_X5_setRoute w so x u ho sg hs (xs (i + 1)) (xs (i + 2)) (xs (i + 3))).2.2.2.1) ((f_X5_setRoute w so x u ho sg hs (xs (i + 1)) (xs (i + 2)) (xs (i + 3))).2.2.2.2.1) ((f_X5_setRoute w so x u ho sg hs (xs (i + 1)) (xs (i + 2)) (xs (i + 3))).2.2.2.2.2.1) ((f_X5_setRoute w so x u ho sg hs (xs (i + 1)) (xs (i + 2)) (xs (i + 3))).2.2.2.2.2.2) (z2) (x2) (u2) (tx) ((f_X6_setRoute y nn mm kk (xs (i + 1)) (xs (i + 2)) (xs (i + 3))).2) := ⟨hw.2.1, hw.2.2, (by rw [u_X6_setRoute_0_5, u_X6_setRoute_0_2]; exact hrq), (by rw [u_X6_setRoute_0_7, u_X6_setRoute_0_6]; exact hrt)⟩
  exact G (w) ((f_X5_setRoute w so x u ho sg hs (xs (i + 1)) (xs (i + 2)) (xs (i + 3))).2.1) ((f_X5_setRoute w so x u ho sg hs (xs (i + 1)) (xs (i + 2)) (xs (i + 3))).2.2.1) ((f_X5_setRoute w so x u ho sg hs (xs (i + 1)) (xs (i + 2)) (xs (i + 3))).2.2.2.1) ((f_X5_setRoute w so x u ho sg hs (xs (i + 1)) (xs (i + 2)) (xs (i + 3))).2.2.2.2.1) ((f_X5_setRoute w so x u ho sg hs (xs (i + 1)) (xs (i + 2)) (xs (i + 3))).2.2.2.2.2.1) ((f_X5_setRoute w so x u ho sg hs (xs (i + 1)) (xs (i + 2)) (xs (i + 3))).2.2.2.2.2.2) (z1) (x1) (u1) (z2) (x2) (u2) (tx) (nu) ((f_X6_setRoute y nn mm kk (xs (i + 1)) (xs (i + 2)) (xs (i + 3))).2) V2 H2 locs2 ls hR ⟨p_w, p_so, p_x, p_u, p_ho, p_sg, p_hs, p_z1, p_x1, p_u1, p_z2, p_x2, p_u2, p_tx, p_nu, p_y⟩ hP hS hl
set_option maxHeartbeats 4000000 in
set_option maxRecDepth 100000 in
theorem law_setMost {p : Program} {l : Launch} {e : Env} {s : State} {m : MethodId} {below : List Frame} {meth : Method} {c : Code} {dd : va_G} {t : CL4} {z b L i : Nat} {xs : Nat → Int32} (hL : L ≤ 2048) (X : WX p s m #[Value.ref b] c cL_law 4 RL dd t) (hX : va_X b L xs s s.heap) (hbl : b < s.heap.size) (hbA : ¬ dm 412 (adz z) s.heap.size b) (hi : i + 4 ≤ L) (G : LGoal p l e s m below meth c dd t z b i 798) : LGoal p l e s m below meth c dd t z b i 307 := by
  intro w so x u ho sg hs z1 x1 u1 z2 x2 u2 tx nu y V H locs ls hrel hp hP hS hl
  obtain ⟨p_w, p_so, p_x, p_u, p_ho, p_sg, p_hs, p_z1, p_x1, p_u1, p_z2, p_x2, p_u2, p_tx, p_nu, p_y⟩ := hp
  obtain ⟨⟨nn, mm, kk, hrs⟩, hrh, hrq, hrt⟩ := id hrel
  have hx := X.1.1
  have hb := X.1.2.1
  have hro := hrs.row
  have hn := hrs.1.1.1
  have hm := hrs.1.1.2.1
  have hst := hrh.2.1
  have htl := hrt.2.1
  have hsg := hrh.2.2.1
  refine lv_aload_n hx hb dL_law_307 rfl (lv_at hl 2 rfl) ?_
  refine lv_aload_n hx hb dL_law_308 rfl (lv_at hl 3 rfl) ?_
  refine lv_iload_n hx hb dL_law_309 rfl (lv_at hl 0 rfl) ?_
  refine lv_iconst (v := nI 1) hx hb dL_law_310 (by decide) ?_
  refine q_iadd hx hb dL_law_311 ?_
  refine va_sld hx hb hX hbl hbA hS (vp_in_nI (show i + 1 < L by omega) (by omega)) dL_law_312 ?_
  refine q_val (congrArg xs (nI_clamp (show i + 1 < 2 ^ 31 by omega))) ?_
  refine r_callM (As := [.int (xs (i + 1))]) (rest := []) (ci := 5) X hP hS (c_X5_setMost inj_z p_w p_so p_x p_u p_ho p_sg p_hs (xs (i + 1)) hsg) o_X5_setMost rfl p_w.lt p_w.ob m225 ⟨rfl, rfl⟩ ⟨Nat.le_of_ble_eq_true rfl, Nat.le_of_ble_eq_true rfl⟩ rfl hl.1 rfl (Nat.le_of_ble_eq_true rfl) ⟨Nat.le_of_ble_eq_true rfl, Nat.le_of_ble_eq_true rfl⟩ dL_law_313 (fun r V1 H1 locs1 hq hP hS => ?_)
  obtain ⟨hr, p_so, p_x, p_u, p_ho, p_sg, p_hs, h2⟩ := hq
  subst hr
  have p_w := p_w.keep (V1 := V1) (fun k h8 h9 => h2 k (by omega))
  have p_z1 := p_z1.keep (V1 := V1) (fun k h8 h9 => h2 k (by omega))
  have p_x1 := p_x1.keep (V1 := V1) (fun k h8 h9 => h2 k (by omega))
  have p_u1 := p_u1.keep (V1 := V1) (fun k h8 h9 => h2 k (by omega))
  have p_z2 := p_z2.keep (V1 := V1) (fun k h8 h9 => h2 k (by omega))
  have p_x2 := p_x2.keep (V1 := V1) (fun k h8 h9 => h2 k (by omega))
  have p_u2 := p_u2.keep (V1 := V1) (fun k h8 h9 => h2 k (by omega))
  have p_tx := p_tx.keep (V1 := V1) (fun k h8 h9 => h2 k (by omega))
  have p_nu := p_nu.keep (V1 := V1) (fun k h8 h9 => h2 k (by omega))
  have p_y := p_y.keep (V1 := V1) (fun k h8 h9 => h2 k (by omega))
  refine lv_aload_n hx hb dL_law_316 rfl (lv_at hl 1 rfl) ?_
  refine lv_aload_n hx hb dL_law_317 rfl (lv_at hl 3 rfl) ?_
  refine lv_iload_n hx hb dL_law_318 rfl (lv_at hl 0 rfl) ?_
  refine lv_iconst (v := nI 1) hx hb dL_law_319 (by decide) ?_
  refine q_iadd hx hb dL_law_320 ?_
  refine va_sld hx hb hX hbl hbA hS (vp_in_nI (show i + 1 < L by omega) (by omega)) dL_law_321 ?_
  refine q_val (congrArg xs (nI_clamp (show i + 1 < 2 ^ 31 by omega))) ?_
  refine r_callM (As := [.int (xs (i + 1))]) (rest := [.int ((f_X5_setMost w so x u ho sg hs (xs (i + 1))).1)]) (ci := 6) X hP hS (c_X6_setMost (nn := nn) (mm := mm) (kk := kk) inj_z p_y (xs (i + 1)) hro.1 hro.2.1 hro.2.2.1 hn hm hro.2.2.2.1 hst) o_X6_setMost rfl p_y.lt p_y.ob m231 ⟨rfl, rfl⟩ ⟨Nat.le_of_ble_eq_true rfl, Nat.le_of_ble_eq_true rfl⟩ rfl hl.1 rfl (Nat.le_of_ble_eq_true rfl) ⟨Nat.le_of_ble_eq_true rfl, Nat.le_of_ble_eq_true rfl⟩ dL_law_322 (fun r V2 H2 locs2 hq hP hS => ?_)
  obtain ⟨hr, p_y, h2⟩ := hq
  subst hr
  have p_w := p_w.keep (V1 := V2) (fun k h8 h9 => h2 k (by omega))
  have p_so := p_so.keep (V1 := V2) (fun k h8 h9 => h2 k (by omega))
  have p_x := p_x.keep (V1 := V2) (fun k h8 h9 => h2 k (by omega))
  have p_u := p_u.keep (V1 := V2) (fun k h8 h9 => h2 k (by omega))
  have p_ho := p_ho.keep (V1 := V2) (fun k h8 h9 => h2 k (by omega))
  have p_sg := p_sg.keep (V1 := V2) (fun k h8 h9 => h2 k (by omega))
  have p_hs := p_hs.keep (V1 := V2) (fun k h8 h9 => h2 k (by omega))
  have p_z1 := p_z1.keep (V1 := V2) (fun k h8 h9 => h2 k (by omega))
  have p_x1 := p_x1.keep (V1 := V2) (fun k h8 h9 => h2 k (by omega))
  have p_u1 := p_u1.keep (V1 := V2) (fun k h8 h9 => h2 k (by omega))
  have p_z2 := p_z2.keep (V1 := V2) (fun k h8 h9 => h2 k (by omega))
  have p_x2 := p_x2.keep (V1 := V2) (fun k h8 h9 => h2 k (by omega))
  have p_u2 := p_u2.keep (V1 := V2) (fun k h8 h9 => h2 k (by omega))
  have p_tx := p_tx.keep (V1 := V2) (fun k h8 h9 => h2 k (by omega))
  have p_nu := p_nu.keep (V1 := V2) (fun k h8 h9 => h2 k (by omega))
  have hw := w_setMost (w := w) hrs hrh (xs (i + 1))
  refine lv_icmp_eq (tgt := 798) hx hb dL_law_325 (by decide) (fun _ => ?_) (fun q => absurd hw.1 q)
  have hR : Rel (w) ((f_X5_setMost w so x u ho sg hs (xs (i + 1))).2.1) ((f_X5_setMost w so x u ho sg hs (xs (i + 1))).2.2.1) ((f_X5_setMost w so x u ho sg hs (xs (i + 1))).2.2.2.1) ((f_X5_setMost w so x u ho sg hs (xs (i + 1))).2.2.2.2.1) ((f_X5_setMost w so x u ho sg hs (xs (i + 1))).2.2.2.2.2.1) ((f_X5_setMost w so x u ho sg hs (xs (i + 1))).2.2.2.2.2.2) (z2) (x2) (u2) (tx) ((f_X6_setMost y nn mm kk (xs (i + 1))).2) := ⟨hw.2.1, hw.2.2, (by rw [u_X6_setMost_0_5, u_X6_setMost_0_2]; exact hrq), (by rw [u_X6_setMost_0_7, u_X6_setMost_0_6]; exact hrt)⟩
  exact G (w) ((f_X5_setMost w so x u ho sg hs (xs (i + 1))).2.1) ((f_X5_setMost w so x u ho sg hs (xs (i + 1))).2.2.1) ((f_X5_setMost w so x u ho sg hs (xs (i + 1))).2.2.2.1) ((f_X5_setMost w so x u ho sg hs (xs (i + 1))).2.2.2.2.1) ((f_X5_setMost w so x u ho sg hs (xs (i + 1))).2.2.2.2.2.1) ((f_X5_setMost w so x u ho sg hs (xs (i + 1))).2.2.2.2.2.2) (z1) (x1) (u1) (z2) (x2) (u2) (tx) (nu) ((f_X6_setMost y nn mm kk (xs (i + 1))).2) V2 H2 locs2 ls hR ⟨p_w, p_so, p_x, p_u, p_ho, p_sg, p_hs, p_z1, p_x1, p_u1, p_z2, p_x2, p_u2, p_tx, p_nu, p_y⟩ hP hS hl
set_option maxHeartbeats 4000000 in
set_option maxRecDepth 100000 in
theorem law_step {p : Program} {l : Launch} {e : Env} {s : State} {m : MethodId} {below : List Frame} {meth : Method} {c : Code} {dd : va_G} {t : CL4} {z b L i : Nat} {xs : Nat → Int32} (hL : L ≤ 2048) (X : WX p s m #[Value.ref b] c cL_law 4 RL dd t) (hX : va_X b L xs s s.heap) (hbl : b < s.heap.size) (hbA : ¬ dm 412 (adz z) s.heap.size b) (hi : i + 4 ≤ L) (G : LGoal p l e s m below meth c dd t z b i 798) : LGoal p l e s m below meth c dd t z b i 389 := by
  intro w so x u ho sg hs z1 x1 u1 z2 x2 u2 tx nu y V H locs ls hrel hp hP hS hl
  obtain ⟨p_w, p_so, p_x, p_u, p_ho, p_sg, p_hs, p_z1, p_x1, p_u1, p_z2, p_x2, p_u2, p_tx, p_nu, p_y⟩ := hp
  obtain ⟨⟨nn, mm, kk, hrs⟩, hrh, hrq, hrt⟩ := id hrel
  have hx := X.1.1
  have hb := X.1.2.1
  have hro := hrs.row
  have hn := hrs.1.1.1
  have hm := hrs.1.1.2.1
  have hst := hrh.2.1
  have htl := hrt.2.1
  have hsg := hrh.2.2.1
  refine lv_aload_n hx hb dL_law_389 rfl (lv_at hl 2 rfl) ?_
  refine r_callM (As := []) (rest := []) (ci := 5) X hP hS (c_X5_step inj_z p_w p_so p_x p_u p_ho p_sg p_hs p_z1 p_x1 p_u1 p_nu  hsg) o_X5_step rfl p_w.lt p_w.ob m267 ⟨rfl, rfl⟩ ⟨Nat.le_of_ble_eq_true rfl, Nat.le_of_ble_eq_true rfl⟩ rfl hl.1 rfl (Nat.le_of_ble_eq_true rfl) ⟨Nat.le_of_ble_eq_true rfl, Nat.le_of_ble_eq_true rfl⟩ dL_law_390 (fun r V1 H1 locs1 hq hP hS => ?_)
  obtain ⟨hr, p_so, p_x, p_u, p_ho, p_sg, p_hs, p_z1, p_x1, p_u1, p_nu, h2⟩ := hq
  subst hr
  have p_w := p_w.keep (V1 := V1) (fun k h8 h9 => h2 k (by omega))
  have p_z2 := p_z2.keep (V1 := V1) (fun k h8 h9 => h2 k (by omega))
  have p_x2 := p_x2.keep (V1 := V1) (fun k h8 h9 => h2 k (by omega))
  have p_u2 := p_u2.keep (V1 := V1) (fun k h8 h9 => h2 k (by omega))
  have p_tx := p_tx.keep (V1 := V1) (fun k h8 h9 => h2 k (by omega))
  have p_y := p_y.keep (V1 := V1) (fun k h8 h9 => h2 k (by omega))
  refine lv_aload_n hx hb dL_law_393 rfl (lv_at hl 1 rfl) ?_
  refine r_callM (As := []) (rest := [.int ((f_X5_step w so x u ho sg hs z1 x1 u1 nu ).1)]) (ci := 6) X hP hS (c_X6_step (nn := nn) (mm := mm) (kk := kk) inj_z p_y  hro.1 hro.2.1 hro.2.2.1 hn hm hro.2.2.2.1 hst hro.2.2.2.2.1 hro.2.2.2.2.2) o_X6_step rfl p_y.lt p_y.ob m378 ⟨rfl, rfl⟩ ⟨Nat.le_of_ble_eq_true rfl, Nat.le_of_ble_eq_true rfl⟩ rfl hl.1 rfl (Nat.le_of_ble_eq_true rfl) ⟨Nat.le_of_ble_eq_true rfl, Nat.le_of_ble_eq_true rfl⟩ dL_law_394 (fun r V2 H2 locs2 hq hP hS => ?_)
  obtain ⟨hr, p_y, h2⟩ := hq
  subst hr
  have p_w := p_w.keep (V1 := V2) (fun k h8 h9 => h2 k (by omega))
  have p_so := p_so.keep (V1 := V2) (fun k h8 h9 => h2 k (by omega))
  have p_x := p_x.keep (V1 := V2) (fun k h8 h9 => h2 k (by omega))
  have p_u := p_u.keep (V1 := V2) (fun k h8 h9 => h2 k (by omega))
  have p_ho := p_ho.keep (V1 := V2) (fun k h8 h9 => h2 k (by omega))
  have p_sg := p_sg.keep (V1 := V2) (fun k h8 h9 => h2 k (by omega))
  have p_hs := p_hs.keep (V1 := V2) (fun k h8 h9 => h2 k (by omega))
  have p_z1 := p_z1.keep (V1 := V2) (fun k h8 h9 => h2 k (by omega))
  have p_x1 := p_x1.keep (V1 := V2) (fun k h8 h9 => h2 k (by omega))
  have p_u1 := p_u1.keep (V1 := V2) (fun k h8 h9 => h2 k (by omega))
  have p_z2 := p_z2.keep (V1 := V2) (fun k h8 h9 => h2 k (by omega))
  have p_x2 := p_x2.keep (V1 := V2) (fun k h8 h9 => h2 k (by omega))
  have p_u2 := p_u2.keep (V1 := V2) (fun k h8 h9 => h2 k (by omega))
  have p_tx := p_tx.keep (V1 := V2) (fun k h8 h9 => h2 k (by omega))
  have p_nu := p_nu.keep (V1 := V2) (fun k h8 h9 => h2 k (by omega))
  have hw := w_step (w := w) (z1 := z1) (x1 := x1) (u1 := u1) (nu := nu) hrs hrh 
  refine lv_icmp_eq (tgt := 798) hx hb dL_law_397 (by decide) (fun _ => ?_) (fun q => absurd hw.1 q)
  have hR : Rel (w) ((f_X5_step w so x u ho sg hs z1 x1 u1 nu ).2.1) ((f_X5_step w so x u ho sg hs z1 x1 u1 nu ).2.2.1) ((f_X5_step w so x u ho sg hs z1 x1 u1 nu ).2.2.2.1) ((f_X5_step w so x u ho sg hs z1 x1 u1 nu ).2.2.2.2.1) ((f_X5_step w so x u ho sg hs z1 x1 u1 nu ).2.2.2.2.2.1) ((f_X5_step w so x u ho sg hs z1 x1 u1 nu ).2.2.2.2.2.2.1) (z2) (x2) (u2) (tx) ((f_X6_step y nn mm kk ).2) := ⟨hw.2.1, hw.2.2, (by rw [u_X6_step_0_5, u_X6_step_0_2]; exact hrq), (by rw [u_X6_step_0_7, u_X6_step_0_6]; exact hrt)⟩
  exact G (w) ((f_X5_step w so x u ho sg hs z1 x1 u1 nu ).2.1) ((f_X5_step w so x u ho sg hs z1 x1 u1 nu ).2.2.1) ((f_X5_step w so x u ho sg hs z1 x1 u1 nu ).2.2.2.1) ((f_X5_step w so x u ho sg hs z1 x1 u1 nu ).2.2.2.2.1) ((f_X5_step w so x u ho sg hs z1 x1 u1 nu ).2.2.2.2.2.1) ((f_X5_step w so x u ho sg hs z1 x1 u1 nu ).2.2.2.2.2.2.1) ((f_X5_step w so x u ho sg hs z1 x1 u1 nu ).2.2.2.2.2.2.2.1) ((f_X5_step w so x u ho sg hs z1 x1 u1 nu ).2.2.2.2.2.2.2.2.1) ((f_X5_step w so x u ho sg hs z1 x1 u1 nu ).2.2.2.2.2.2.2.2.2.1) (z2) (x2) (u2) (tx) ((f_X5_step w so x u ho sg hs z1 x1 u1 nu ).2.2.2.2.2.2.2.2.2.2) ((f_X6_step y nn mm kk ).2) V2 H2 locs2 ls hR ⟨p_w, p_so, p_x, p_u, p_ho, p_sg, p_hs, p_z1, p_x1, p_u1, p_z2, p_x2, p_u2, p_tx, p_nu, p_y⟩ hP hS hl
set_option maxHeartbeats 4000000 in
set_option maxRecDepth 100000 in
theorem law_readCut {p : Program} {l : Launch} {e : Env} {s : State} {m : MethodId} {below : List Frame} {meth : Method} {c : Code} {dd : va_G} {t : CL4} {z b L i : Nat} {xs : Nat → Int32} (hL : L ≤ 2048) (X : WX p s m #[Value.ref b] c cL_law 4 RL dd t) (hX : va_X b L xs s s.heap) (hbl : b < s.heap.size) (hbA : ¬ dm 412 (adz z) s.heap.size b) (hi : i + 4 ≤ L) (G : LGoal p l e s m below meth c dd t z b i 798) : LGoal p l e s m below meth c dd t z b i 415 := by
  intro w so x u ho sg hs z1 x1 u1 z2 x2 u2 tx nu y V H locs ls hrel hp hP hS hl
  obtain ⟨p_w, p_so, p_x, p_u, p_ho, p_sg, p_hs, p_z1, p_x1, p_u1, p_z2, p_x2, p_u2, p_tx, p_nu, p_y⟩ := hp
  obtain ⟨⟨nn, mm, kk, hrs⟩, hrh, hrq, hrt⟩ := id hrel
  have hx := X.1.1
  have hb := X.1.2.1
  have hro := hrs.row
  have hn := hrs.1.1.1
  have hm := hrs.1.1.2.1
  have hst := hrh.2.1
  have htl := hrt.2.1
  have hsg := hrh.2.2.1
  refine lv_aload_n hx hb dL_law_415 rfl (lv_at hl 2 rfl) ?_
  refine r_callM (As := []) (rest := []) (ci := 5) X hP hS (c_X5_readCut inj_z p_w p_so p_x p_u p_ho p_sg p_hs p_tx p_nu  hsg) o_X5_readCut rfl p_w.lt p_w.ob m459 ⟨rfl, rfl⟩ ⟨Nat.le_of_ble_eq_true rfl, Nat.le_of_ble_eq_true rfl⟩ rfl hl.1 rfl (Nat.le_of_ble_eq_true rfl) ⟨Nat.le_of_ble_eq_true rfl, Nat.le_of_ble_eq_true rfl⟩ dL_law_416 (fun r V1 H1 locs1 hq hP hS => ?_)
  obtain ⟨hr, p_so, p_x, p_u, p_ho, p_sg, p_hs, p_nu, h2⟩ := hq
  subst hr
  have p_w := p_w.keep (V1 := V1) (fun k h8 h9 => h2 k (by omega))
  have p_z1 := p_z1.keep (V1 := V1) (fun k h8 h9 => h2 k (by omega))
  have p_x1 := p_x1.keep (V1 := V1) (fun k h8 h9 => h2 k (by omega))
  have p_u1 := p_u1.keep (V1 := V1) (fun k h8 h9 => h2 k (by omega))
  have p_z2 := p_z2.keep (V1 := V1) (fun k h8 h9 => h2 k (by omega))
  have p_x2 := p_x2.keep (V1 := V1) (fun k h8 h9 => h2 k (by omega))
  have p_u2 := p_u2.keep (V1 := V1) (fun k h8 h9 => h2 k (by omega))
  have p_tx := p_tx.keep (V1 := V1) (fun k h8 h9 => h2 k (by omega))
  have p_y := p_y.keep (V1 := V1) (fun k h8 h9 => h2 k (by omega))
  refine lv_aload_n hx hb dL_law_419 rfl (lv_at hl 1 rfl) ?_
  refine r_callM (As := []) (rest := [.int ((f_X5_readCut w so x u ho sg hs tx nu ).1)]) (ci := 6) X hP hS (c_X6_readCut (nn := nn) (mm := mm) (kk := kk) inj_z p_y  hro.1 hro.2.1 hro.2.2.1 hn hm hro.2.2.2.1 htl hst) o_X6_readCut rfl p_y.lt p_y.ob m481 ⟨rfl, rfl⟩ ⟨Nat.le_of_ble_eq_true rfl, Nat.le_of_ble_eq_true rfl⟩ rfl hl.1 rfl (Nat.le_of_ble_eq_true rfl) ⟨Nat.le_of_ble_eq_true rfl, Nat.le_of_ble_eq_true rfl⟩ dL_law_420 (fun r V2 H2 locs2 hq hP hS => ?_)
  obtain ⟨hr, p_y, h2⟩ := hq
  subst hr
  have p_w := p_w.keep (V1 := V2) (fun k h8 h9 => h2 k (by omega))
  have p_so := p_so.keep (V1 := V2) (fun k h8 h9 => h2 k (by omega))
  have p_x := p_x.keep (V1 := V2) (fun k h8 h9 => h2 k (by omega))
  have p_u := p_u.keep (V1 := V2) (fun k h8 h9 => h2 k (by omega))
  have p_ho := p_ho.keep (V1 := V2) (fun k h8 h9 => h2 k (by omega))
  have p_sg := p_sg.keep (V1 := V2) (fun k h8 h9 => h2 k (by omega))
  have p_hs := p_hs.keep (V1 := V2) (fun k h8 h9 => h2 k (by omega))
  have p_z1 := p_z1.keep (V1 := V2) (fun k h8 h9 => h2 k (by omega))
  have p_x1 := p_x1.keep (V1 := V2) (fun k h8 h9 => h2 k (by omega))
  have p_u1 := p_u1.keep (V1 := V2) (fun k h8 h9 => h2 k (by omega))
  have p_z2 := p_z2.keep (V1 := V2) (fun k h8 h9 => h2 k (by omega))
  have p_x2 := p_x2.keep (V1 := V2) (fun k h8 h9 => h2 k (by omega))
  have p_u2 := p_u2.keep (V1 := V2) (fun k h8 h9 => h2 k (by omega))
  have p_tx := p_tx.keep (V1 := V2) (fun k h8 h9 => h2 k (by omega))
  have p_nu := p_nu.keep (V1 := V2) (fun k h8 h9 => h2 k (by omega))
  have hw := w_readCut (w := w) (nu := nu) hrs hrh hrt 
  refine lv_icmp_eq (tgt := 798) hx hb dL_law_423 (by decide) (fun _ => ?_) (fun q => absurd hw.1 q)
  have hR : Rel (w) ((f_X5_readCut w so x u ho sg hs tx nu ).2.1) ((f_X5_readCut w so x u ho sg hs tx nu ).2.2.1) ((f_X5_readCut w so x u ho sg hs tx nu ).2.2.2.1) ((f_X5_readCut w so x u ho sg hs tx nu ).2.2.2.2.1) ((f_X5_readCut w so x u ho sg hs tx nu ).2.2.2.2.2.1) ((f_X5_readCut w so x u ho sg hs tx nu ).2.2.2.2.2.2.1) (z2) (x2) (u2) (tx) ((f_X6_readCut y nn mm kk ).2) := ⟨hw.2.1, hw.2.2, (by rw [u_X6_readCut_0_5, u_X6_readCut_0_2]; exact hrq), (by rw [u_X6_readCut_0_7, u_X6_readCut_0_6]; exact hrt)⟩
  exact G (w) ((f_X5_readCut w so x u ho sg hs tx nu ).2.1) ((f_X5_readCut w so x u ho sg hs tx nu ).2.2.1) ((f_X5_readCut w so x u ho sg hs tx nu ).2.2.2.1) ((f_X5_readCut w so x u ho sg hs tx nu ).2.2.2.2.1) ((f_X5_readCut w so x u ho sg hs tx nu ).2.2.2.2.2.1) ((f_X5_readCut w so x u ho sg hs tx nu ).2.2.2.2.2.2.1) (z1) (x1) (u1) (z2) (x2) (u2) (tx) ((f_X5_readCut w so x u ho sg hs tx nu ).2.2.2.2.2.2.2) ((f_X6_readCut y nn mm kk ).2) V2 H2 locs2 ls hR ⟨p_w, p_so, p_x, p_u, p_ho, p_sg, p_hs, p_z1, p_x1, p_u1, p_z2, p_x2, p_u2, p_tx, p_nu, p_y⟩ hP hS hl
set_option maxHeartbeats 4000000 in
set_option maxRecDepth 100000 in
theorem law_drop {p : Program} {l : Launch} {e : Env} {s : State} {m : MethodId} {below : List Frame} {meth : Method} {c : Code} {dd : va_G} {t : CL4} {z b L i : Nat} {xs : Nat → Int32} (hL : L ≤ 2048) (X : WX p s m #[Value.ref b] c cL_law 4 RL dd t) (hX : va_X b L xs s s.heap) (hbl : b < s.heap.size) (hbA : ¬ dm 412 (adz z) s.heap.size b) (hi : i + 4 ≤ L) (G : LGoal p l e s m below meth c dd t z b i 798) : LGoal p l e s m below meth c dd t z b i 428 := by
  intro w so x u ho sg hs z1 x1 u1 z2 x2 u2 tx nu y V H locs ls hrel hp hP hS hl
  obtain ⟨p_w, p_so, p_x, p_u, p_ho, p_sg, p_hs, p_z1, p_x1, p_u1, p_z2, p_x2, p_u2, p_tx, p_nu, p_y⟩ := hp
  obtain ⟨⟨nn, mm, kk, hrs⟩, hrh, hrq, hrt⟩ := id hrel
  have hx := X.1.1
  have hb := X.1.2.1
  have hro := hrs.row
  have hn := hrs.1.1.1
  have hm := hrs.1.1.2.1
  have hst := hrh.2.1
  have htl := hrt.2.1
  have hsg := hrh.2.2.1
  refine lv_aload_n hx hb dL_law_428 rfl (lv_at hl 2 rfl) ?_
  refine lv_aload_n hx hb dL_law_429 rfl (lv_at hl 3 rfl) ?_
  refine lv_iload_n hx hb dL_law_430 rfl (lv_at hl 0 rfl) ?_
  refine lv_iconst (v := nI 1) hx hb dL_law_431 (by decide) ?_
  refine q_iadd hx hb dL_law_432 ?_
  refine va_sld hx hb hX hbl hbA hS (vp_in_nI (show i + 1 < L by omega) (by omega)) dL_law_433 ?_
  refine q_val (congrArg xs (nI_clamp (show i + 1 < 2 ^ 31 by omega))) ?_
  refine r_callM (As := [.int (xs (i + 1))]) (rest := []) (ci := 5) X hP hS (c_X5_drop inj_z p_w p_so p_x p_u p_ho p_sg p_hs (xs (i + 1)) hsg) o_X5_drop rfl p_w.lt p_w.ob m495 ⟨rfl, rfl⟩ ⟨Nat.le_of_ble_eq_true rfl, Nat.le_of_ble_eq_true rfl⟩ rfl hl.1 rfl (Nat.le_of_ble_eq_true rfl) ⟨Nat.le_of_ble_eq_true rfl, Nat.le_of_ble_eq_true rfl⟩ dL_law_434 (fun r V1 H1 locs1 hq hP hS => ?_)
  obtain ⟨hr, p_so, p_x, p_u, p_ho, p_sg, p_hs, h2⟩ := hq
  subst hr
  have p_w := p_w.keep (V1 := V1) (fun k h8 h9 => h2 k (by omega))
  have p_z1 := p_z1.keep (V1 := V1) (fun k h8 h9 => h2 k (by omega))
  have p_x1 := p_x1.keep (V1 := V1) (fun k h8 h9 => h2 k (by omega))
  have p_u1 := p_u1.keep (V1 := V1) (fun k h8 h9 => h2 k (by omega))
  have p_z2 := p_z2.keep (V1 := V1) (fun k h8 h9 => h2 k (by omega))
  have p_x2 := p_x2.keep (V1 := V1) (fun k h8 h9 => h2 k (by omega))
  have p_u2 := p_u2.keep (V1 := V1) (fun k h8 h9 => h2 k (by omega))
  have p_tx := p_tx.keep (V1 := V1) (fun k h8 h9 => h2 k (by omega))
  have p_nu := p_nu.keep (V1 := V1) (fun k h8 h9 => h2 k (by omega))
  have p_y := p_y.keep (V1 := V1) (fun k h8 h9 => h2 k (by omega))
  refine lv_aload_n hx hb dL_law_437 rfl (lv_at hl 1 rfl) ?_
  refine lv_aload_n hx hb dL_law_438 rfl (lv_at hl 3 rfl) ?_
  refine lv_iload_n hx hb dL_law_439 rfl (lv_at hl 0 rfl) ?_
  refine lv_iconst (v := nI 1) hx hb dL_law_440 (by decide) ?_
  refine q_iadd hx hb dL_law_441 ?_
  refine va_sld hx hb hX hbl hbA hS (vp_in_nI (show i + 1 < L by omega) (by omega)) dL_law_442 ?_
  refine q_val (congrArg xs (nI_clamp (show i + 1 < 2 ^ 31 by omega))) ?_
  refine r_callM (As := [.int (xs (i + 1))]) (rest := [.int ((f_X5_drop w so x u ho sg hs (xs (i + 1))).1)]) (ci := 6) X hP hS (c_X6_drop (nn := nn) (mm := mm) (kk := kk) inj_z p_y (xs (i + 1)) hro.1 hro.2.1 hro.2.2.1 hn hm hro.2.2.2.1 hst) o_X6_drop rfl p_y.lt p_y.ob m507 ⟨rfl, rfl⟩ ⟨Nat.le_of_ble_eq_true rfl, Nat.le_of_ble_eq_true rfl⟩ rfl hl.1 rfl (Nat.le_of_ble_eq_true rfl) ⟨Nat.le_of_ble_eq_true rfl, Nat.le_of_ble_eq_true rfl⟩ dL_law_443 (fun r V2 H2 locs2 hq hP hS => ?_)
  obtain ⟨hr, p_y, h2⟩ := hq
  subst hr
  have p_w := p_w.keep (V1 := V2) (fun k h8 h9 => h2 k (by omega))
  have p_so := p_so.keep (V1 := V2) (fun k h8 h9 => h2 k (by omega))
  have p_x := p_x.keep (V1 := V2) (fun k h8 h9 => h2 k (by omega))
  have p_u := p_u.keep (V1 := V2) (fun k h8 h9 => h2 k (by omega))
  have p_ho := p_ho.keep (V1 := V2) (fun k h8 h9 => h2 k (by omega))
  have p_sg := p_sg.keep (V1 := V2) (fun k h8 h9 => h2 k (by omega))
  have p_hs := p_hs.keep (V1 := V2) (fun k h8 h9 => h2 k (by omega))
  have p_z1 := p_z1.keep (V1 := V2) (fun k h8 h9 => h2 k (by omega))
  have p_x1 := p_x1.keep (V1 := V2) (fun k h8 h9 => h2 k (by omega))
  have p_u1 := p_u1.keep (V1 := V2) (fun k h8 h9 => h2 k (by omega))
  have p_z2 := p_z2.keep (V1 := V2) (fun k h8 h9 => h2 k (by omega))
  have p_x2 := p_x2.keep (V1 := V2) (fun k h8 h9 => h2 k (by omega))
  have p_u2 := p_u2.keep (V1 := V2) (fun k h8 h9 => h2 k (by omega))
  have p_tx := p_tx.keep (V1 := V2) (fun k h8 h9 => h2 k (by omega))
  have p_nu := p_nu.keep (V1 := V2) (fun k h8 h9 => h2 k (by omega))
  have hw := w_drop (w := w) hrs hrh (xs (i + 1))
  refine lv_icmp_eq (tgt := 798) hx hb dL_law_446 (by decide) (fun _ => ?_) (fun q => absurd hw.1 q)
  have hR : Rel (w) ((f_X5_drop w so x u ho sg hs (xs (i + 1))).2.1) ((f_X5_drop w so x u ho sg hs (xs (i + 1))).2.2.1) ((f_X5_drop w so x u ho sg hs (xs (i + 1))).2.2.2.1) ((f_X5_drop w so x u ho sg hs (xs (i + 1))).2.2.2.2.1) ((f_X5_drop w so x u ho sg hs (xs (i + 1))).2.2.2.2.2.1) ((f_X5_drop w so x u ho sg hs (xs (i + 1))).2.2.2.2.2.2) (z2) (x2) (u2) (tx) ((f_X6_drop y nn mm kk (xs (i + 1))).2) := ⟨hw.2.1, hw.2.2, (by rw [u_X6_drop_0_5, u_X6_drop_0_2]; exact hrq), (by rw [u_X6_drop_0_7, u_X6_drop_0_6]; exact hrt)⟩
  exact G (w) ((f_X5_drop w so x u ho sg hs (xs (i + 1))).2.1) ((f_X5_drop w so x u ho sg hs (xs (i + 1))).2.2.1) ((f_X5_drop w so x u ho sg hs (xs (i + 1))).2.2.2.1) ((f_X5_drop w so x u ho sg hs (xs (i + 1))).2.2.2.2.1) ((f_X5_drop w so x u ho sg hs (xs (i + 1))).2.2.2.2.2.1) ((f_X5_drop w so x u ho sg hs (xs (i + 1))).2.2.2.2.2.2) (z1) (x1) (u1) (z2) (x2) (u2) (tx) (nu) ((f_X6_drop y nn mm kk (xs (i + 1))).2) V2 H2 locs2 ls hR ⟨p_w, p_so, p_x, p_u, p_ho, p_sg, p_hs, p_z1, p_x1, p_u1, p_z2, p_x2, p_u2, p_tx, p_nu, p_y⟩ hP hS hl
set_option maxHeartbeats 4000000 in
set_option maxRecDepth 100000 in
theorem law_type {p : Program} {l : Launch} {e : Env} {s : State} {m : MethodId} {below : List Frame} {meth : Method} {c : Code} {dd : va_G} {t : CL4} {z b L i : Nat} {xs : Nat → Int32} (hL : L ≤ 2048) (X : WX p s m #[Value.ref b] c cL_law 4 RL dd t) (hX : va_X b L xs s s.heap) (hbl : b < s.heap.size) (hbA : ¬ dm 412 (adz z) s.heap.size b) (hi : i + 4 ≤ L) (G : LGoal p l e s m below meth c dd t z b i 798) : LGoal p l e s m below meth c dd t z b i 464 := by
  intro w so x u ho sg hs z1 x1 u1 z2 x2 u2 tx nu y V H locs ls hrel hp hP hS hl
  obtain ⟨p_w, p_so, p_x, p_u, p_ho, p_sg, p_hs, p_z1, p_x1, p_u1, p_z2, p_x2, p_u2, p_tx, p_nu, p_y⟩ := hp
  obtain ⟨⟨nn, mm, kk, hrs⟩, hrh, hrq, hrt⟩ := id hrel
  have hx := X.1.1
  have hb := X.1.2.1
  have hro := hrs.row
  have hn := hrs.1.1.1
  have hm := hrs.1.1.2.1
  have hst := hrh.2.1
  have htl := hrt.2.1
  have hsg := hrh.2.2.1
  refine lv_aload_n hx hb dL_law_464 rfl (lv_at hl 2 rfl) ?_
  refine lv_aload_n hx hb dL_law_465 rfl (lv_at hl 3 rfl) ?_
  refine lv_iload_n hx hb dL_law_466 rfl (lv_at hl 0 rfl) ?_
  refine lv_iconst (v := nI 1) hx hb dL_law_467 (by decide) ?_
  refine q_iadd hx hb dL_law_468 ?_
  refine va_sld hx hb hX hbl hbA hS (vp_in_nI (show i + 1 < L by omega) (by omega)) dL_law_469 ?_
  refine q_val (congrArg xs (nI_clamp (show i + 1 < 2 ^ 31 by omega))) ?_
  refine lv_i2c (v := ((xs (i + 1)).toUInt32 % 65536).toInt32) hx hb dL_law_470 rfl ?_
  refine r_callM (As := [.int (((xs (i + 1)).toUInt32 % 65536).toInt32)]) (rest := []) (ci := 5) X hP hS (c_X5_type inj_z p_w p_tx (((xs (i + 1)).toUInt32 % 65536).toInt32) ) o_X5_type rfl p_w.lt p_w.ob m545 ⟨rfl, rfl⟩ ⟨Nat.le_of_ble_eq_true rfl, Nat.le_of_ble_eq_true rfl⟩ rfl hl.1 rfl (Nat.le_of_ble_eq_true rfl) ⟨Nat.le_of_ble_eq_true rfl, Nat.le_of_ble_eq_true rfl⟩ dL_law_471 (fun r V1 H1 locs1 hq hP hS => ?_)
  obtain ⟨hr, p_tx, h2⟩ := hq
  subst hr
  have p_w := p_w.keep (V1 := V1) (fun k h8 h9 => h2 k (by omega))
  have p_so := p_so.keep (V1 := V1) (fun k h8 h9 => h2 k (by omega))
  have p_x := p_x.keep (V1 := V1) (fun k h8 h9 => h2 k (by omega))
  have p_u := p_u.keep (V1 := V1) (fun k h8 h9 => h2 k (by omega))
  have p_ho := p_ho.keep (V1 := V1) (fun k h8 h9 => h2 k (by omega))
  have p_sg := p_sg.keep (V1 := V1) (fun k h8 h9 => h2 k (by omega))
  have p_hs := p_hs.keep (V1 := V1) (fun k h8 h9 => h2 k (by omega))
  have p_z1 := p_z1.keep (V1 := V1) (fun k h8 h9 => h2 k (by omega))
  have p_x1 := p_x1.keep (V1 := V1) (fun k h8 h9 => h2 k (by omega))
  have p_u1 := p_u1.keep (V1 := V1) (fun k h8 h9 => h2 k (by omega))
  have p_z2 := p_z2.keep (V1 := V1) (fun k h8 h9 => h2 k (by omega))
  have p_x2 := p_x2.keep (V1 := V1) (fun k h8 h9 => h2 k (by omega))
  have p_u2 := p_u2.keep (V1 := V1) (fun k h8 h9 => h2 k (by omega))
  have p_nu := p_nu.keep (V1 := V1) (fun k h8 h9 => h2 k (by omega))
  have p_y := p_y.keep (V1 := V1) (fun k h8 h9 => h2 k (by omega))
  refine lv_aload_n hx hb dL_law_474 rfl (lv_at hl 1 rfl) ?_
  refine lv_aload_n hx hb dL_law_475 rfl (lv_at hl 3 rfl) ?_
  refine lv_iload_n hx hb dL_law_476 rfl (lv_at hl 0 rfl) ?_
  refine lv_iconst (v := nI 1) hx hb dL_law_477 (by decide) ?_
  refine q_iadd hx hb dL_law_478 ?_
  refine va_sld hx hb hX hbl hbA hS (vp_in_nI (show i + 1 < L by omega) (by omega)) dL_law_479 ?_
  refine q_val (congrArg xs (nI_clamp (show i + 1 < 2 ^ 31 by omega))) ?_
  refine lv_i2c (v := ((xs (i + 1)).toUInt32 % 65536).toInt32) hx hb dL_law_480 rfl ?_
  refine r_callM (As := [.int (((xs (i + 1)).toUInt32 % 65536).toInt32)]) (rest := [.int ((f_X5_type w tx (((xs (i + 1)).toUInt32 % 65536).toInt32)).1)]) (ci := 6) X hP hS (c_X6_type inj_z p_y (((xs (i + 1)).toUInt32 % 65536).toInt32) htl) o_X6_type rfl p_y.lt p_y.ob m558 ⟨rfl, rfl⟩ ⟨Nat.le_of_ble_eq_true rfl, Nat.le_of_ble_eq_true rfl⟩ rfl hl.1 rfl (Nat.le_of_ble_eq_true rfl) ⟨Nat.le_of_ble_eq_true rfl, Nat.le_of_ble_eq_true rfl⟩ dL_law_481 (fun r V2 H2 locs2 hq hP hS => ?_)
  obtain ⟨hr, p_y, h2⟩ := hq
  subst hr
  have p_w := p_w.keep (V1 := V2) (fun k h8 h9 => h2 k (by omega))
  have p_so := p_so.keep (V1 := V2) (fun k h8 h9 => h2 k (by omega))
  have p_x := p_x.keep (V1 := V2) (fun k h8 h9 => h2 k (by omega))
  have p_u := p_u.keep (V1 := V2) (fun k h8 h9 => h2 k (by omega))
  have p_ho := p_ho.keep (V1 := V2) (fun k h8 h9 => h2 k (by omega))
  have p_sg := p_sg.keep (V1 := V2) (fun k h8 h9 => h2 k (by omega))
  have p_hs := p_hs.keep (V1 := V2) (fun k h8 h9 => h2 k (by omega))
  have p_z1 := p_z1.keep (V1 := V2) (fun k h8 h9 => h2 k (by omega))
  have p_x1 := p_x1.keep (V1 := V2) (fun k h8 h9 => h2 k (by omega))
  have p_u1 := p_u1.keep (V1 := V2) (fun k h8 h9 => h2 k (by omega))
  have p_z2 := p_z2.keep (V1 := V2) (fun k h8 h9 => h2 k (by omega))
  have p_x2 := p_x2.keep (V1 := V2) (fun k h8 h9 => h2 k (by omega))
  have p_u2 := p_u2.keep (V1 := V2) (fun k h8 h9 => h2 k (by omega))
  have p_tx := p_tx.keep (V1 := V2) (fun k h8 h9 => h2 k (by omega))
  have p_nu := p_nu.keep (V1 := V2) (fun k h8 h9 => h2 k (by omega))
  have hw := w_type (w := w) hrt (((xs (i + 1)).toUInt32 % 65536).toInt32)
  refine lv_icmp_eq (tgt := 798) hx hb dL_law_484 (by decide) (fun _ => ?_) (fun q => absurd hw.1 q)
  have hR : Rel (w) (so) (x) (u) (ho) (sg) (hs) (z2) (x2) (u2) ((f_X5_type w tx (((xs (i + 1)).toUInt32 % 65536).toInt32)).2) ((f_X6_type y (((xs (i + 1)).toUInt32 % 65536).toInt32)).2) := ⟨⟨nn, mm, kk, by rw [u_X6_type_0_0]; exact hrs⟩, by rw [u_X6_type_0_4, u_X6_type_0_1]; exact hrh, (by rw [u_X6_type_0_5, u_X6_type_0_2]; exact hrq), hw.2⟩
  exact G (w) (so) (x) (u) (ho) (sg) (hs) (z1) (x1) (u1) (z2) (x2) (u2) ((f_X5_type w tx (((xs (i + 1)).toUInt32 % 65536).toInt32)).2) (nu) ((f_X6_type y (((xs (i + 1)).toUInt32 % 65536).toInt32)).2) V2 H2 locs2 ls hR ⟨p_w, p_so, p_x, p_u, p_ho, p_sg, p_hs, p_z1, p_x1, p_u1, p_z2, p_x2, p_u2, p_tx, p_nu, p_y⟩ hP hS hl
set_option maxHeartbeats 4000000 in
set_option maxRecDepth 100000 in
theorem law_clearText {p : Program} {l : Launch} {e : Env} {s : State} {m : MethodId} {below : List Frame} {meth : Method} {c : Code} {dd : va_G} {t : CL4} {z b L i : Nat} {xs : Nat → Int32} (hL : L ≤ 2048) (X : WX p s m #[Value.ref b] c cL_law 4 RL dd t) (hX : va_X b L xs s s.heap) (hbl : b < s.heap.size) (hbA : ¬ dm 412 (adz z) s.heap.size b) (hi : i + 4 ≤ L) (G : LGoal p l e s m below meth c dd t z b i 798) : LGoal p l e s m below meth c dd t z b i 489 := by
  intro w so x u ho sg hs z1 x1 u1 z2 x2 u2 tx nu y V H locs ls hrel hp hP hS hl
  obtain ⟨p_w, p_so, p_x, p_u, p_ho, p_sg, p_hs, p_z1, p_x1, p_u1, p_z2, p_x2, p_u2, p_tx, p_nu, p_y⟩ := hp
  obtain ⟨⟨nn, mm, kk, hrs⟩, hrh, hrq, hrt⟩ := id hrel
  have hx := X.1.1
  have hb := X.1.2.1
  have hro := hrs.row
  have hn := hrs.1.1.1
  have hm := hrs.1.1.2.1
  have hst := hrh.2.1
  have htl := hrt.2.1
  have hsg := hrh.2.2.1
  refine lv_aload_n hx hb dL_law_489 rfl (lv_at hl 2 rfl) ?_
  refine r_callM (As := []) (rest := []) (ci := 5) X hP hS (c_X5_clearText inj_z p_w p_tx  ) o_X5_clearText rfl p_w.lt p_w.ob m562 ⟨rfl, rfl⟩ ⟨Nat.le_of_ble_eq_true rfl, Nat.le_of_ble_eq_true rfl⟩ rfl hl.1 rfl (Nat.le_of_ble_eq_true rfl) ⟨Nat.le_of_ble_eq_true rfl, Nat.le_of_ble_eq_true rfl⟩ dL_law_490 (fun r V1 H1 locs1 hq hP hS => ?_)
  obtain ⟨hr, p_tx, h2⟩ := hq
  subst hr
  have p_w := p_w.keep (V1 := V1) (fun k h8 h9 => h2 k (by omega))
  have p_so := p_so.keep (V1 := V1) (fun k h8 h9 => h2 k (by omega))
  have p_x := p_x.keep (V1 := V1) (fun k h8 h9 => h2 k (by omega))
  have p_u := p_u.keep (V1 := V1) (fun k h8 h9 => h2 k (by omega))
  have p_ho := p_ho.keep (V1 := V1) (fun k h8 h9 => h2 k (by omega))
  have p_sg := p_sg.keep (V1 := V1) (fun k h8 h9 => h2 k (by omega))
  have p_hs := p_hs.keep (V1 := V1) (fun k h8 h9 => h2 k (by omega))
  have p_z1 := p_z1.keep (V1 := V1) (fun k h8 h9 => h2 k (by omega))
  have p_x1 := p_x1.keep (V1 := V1) (fun k h8 h9 => h2 k (by omega))
  have p_u1 := p_u1.keep (V1 := V1) (fun k h8 h9 => h2 k (by omega))
  have p_z2 := p_z2.keep (V1 := V1) (fun k h8 h9 => h2 k (by omega))
  have p_x2 := p_x2.keep (V1 := V1) (fun k h8 h9 => h2 k (by omega))
  have p_u2 := p_u2.keep (V1 := V1) (fun k h8 h9 => h2 k (by omega))
  have p_nu := p_nu.keep (V1 := V1) (fun k h8 h9 => h2 k (by omega))
  have p_y := p_y.keep (V1 := V1) (fun k h8 h9 => h2 k (by omega))
  refine lv_aload_n hx hb dL_law_493 rfl (lv_at hl 1 rfl) ?_
  refine r_callM (As := []) (rest := [.int ((f_X5_clearText w tx ).1)]) (ci := 6) X hP hS (c_X6_clearText inj_z p_y  ) o_X6_clearText rfl p_y.lt p_y.ob m566 ⟨rfl, rfl⟩ ⟨Nat.le_of_ble_eq_true rfl, Nat.le_of_ble_eq_true rfl⟩ rfl hl.1 rfl (Nat.le_of_ble_eq_true rfl) ⟨Nat.le_of_ble_eq_true rfl, Nat.le_of_ble_eq_true rfl⟩ dL_law_494 (fun r V2 H2 locs2 hq hP hS => ?_)
  obtain ⟨hr, p_y, h2⟩ := hq
  subst hr
  have p_w := p_w.keep (V1 := V2) (fun k h8 h9 => h2 k (by omega))
  have p_so := p_so.keep (V1 := V2) (fun k h8 h9 => h2 k (by omega))
  have p_x := p_x.keep (V1 := V2) (fun k h8 h9 => h2 k (by omega))
  have p_u := p_u.keep (V1 := V2) (fun k h8 h9 => h2 k (by omega))
  have p_ho := p_ho.keep (V1 := V2) (fun k h8 h9 => h2 k (by omega))
  have p_sg := p_sg.keep (V1 := V2) (fun k h8 h9 => h2 k (by omega))
  have p_hs := p_hs.keep (V1 := V2) (fun k h8 h9 => h2 k (by omega))
  have p_z1 := p_z1.keep (V1 := V2) (fun k h8 h9 => h2 k (by omega))
  have p_x1 := p_x1.keep (V1 := V2) (fun k h8 h9 => h2 k (by omega))
  have p_u1 := p_u1.keep (V1 := V2) (fun k h8 h9 => h2 k (by omega))
  have p_z2 := p_z2.keep (V1 := V2) (fun k h8 h9 => h2 k (by omega))
  have p_x2 := p_x2.keep (V1 := V2) (fun k h8 h9 => h2 k (by omega))
  have p_u2 := p_u2.keep (V1 := V2) (fun k h8 h9 => h2 k (by omega))
  have p_tx := p_tx.keep (V1 := V2) (fun k h8 h9 => h2 k (by omega))
  have p_nu := p_nu.keep (V1 := V2) (fun k h8 h9 => h2 k (by omega))
  have hw := w_clear (w := w) hrt 
  refine lv_icmp_eq (tgt := 798) hx hb dL_law_497 (by decide) (fun _ => ?_) (fun q => absurd hw.1 q)
  have hR : Rel (w) (so) (x) (u) (ho) (sg) (hs) (z2) (x2) (u2) ((f_X5_clearText w tx ).2) ((f_X6_clearText y ).2) := ⟨⟨nn, mm, kk, by rw [u_X6_clearText_0_0]; exact hrs⟩, by rw [u_X6_clearText_0_4, u_X6_clearText_0_1]; exact hrh, (by rw [u_X6_clearText_0_5, u_X6_clearText_0_2]; exact hrq), hw.2⟩
  exact G (w) (so) (x) (u) (ho) (sg) (hs) (z1) (x1) (u1) (z2) (x2) (u2) ((f_X5_clearText w tx ).2) (nu) ((f_X6_clearText y ).2) V2 H2 locs2 ls hR ⟨p_w, p_so, p_x, p_u, p_ho, p_sg, p_hs, p_z1, p_x1, p_u1, p_z2, p_x2, p_u2, p_tx, p_nu, p_y⟩ hP hS hl
set_option maxHeartbeats 4000000 in
set_option maxRecDepth 100000 in
theorem law_undo {p : Program} {l : Launch} {e : Env} {s : State} {m : MethodId} {below : List Frame} {meth : Method} {c : Code} {dd : va_G} {t : CL4} {z b L i : Nat} {xs : Nat → Int32} (hL : L ≤ 2048) (X : WX p s m #[Value.ref b] c cL_law 4 RL dd t) (hX : va_X b L xs s s.heap) (hbl : b < s.heap.size) (hbA : ¬ dm 412 (adz z) s.heap.size b) (hi : i + 4 ≤ L) (G : LGoal p l e s m below meth c dd t z b i 798) : LGoal p l e s m below meth c dd t z b i 502 := by
  intro w so x u ho sg hs z1 x1 u1 z2 x2 u2 tx nu y V H locs ls hrel hp hP hS hl
  obtain ⟨p_w, p_so, p_x, p_u, p_ho, p_sg, p_hs, p_z1, p_x1, p_u1, p_z2, p_x2, p_u2, p_tx, p_nu, p_y⟩ := hp
  obtain ⟨⟨nn, mm, kk, hrs⟩, hrh, hrq, hrt⟩ := id hrel
  have hx := X.1.1
  have hb := X.1.2.1
  have hro := hrs.row
  have hn := hrs.1.1.1
  have hm := hrs.1.1.2.1
  have hst := hrh.2.1
  have htl := hrt.2.1
  have hsg := hrh.2.2.1
  refine lv_aload_n hx hb dL_law_502 rfl (lv_at hl 2 rfl) ?_
  refine r_callM (As := []) (rest := []) (ci := 5) X hP hS (c_X5_undo inj_z p_w p_so p_x p_u p_ho p_sg p_hs  hsg) o_X5_undo rfl p_w.lt p_w.ob m570 ⟨rfl, rfl⟩ ⟨Nat.le_of_ble_eq_true rfl, Nat.le_of_ble_eq_true rfl⟩ rfl hl.1 rfl (Nat.le_of_ble_eq_true rfl) ⟨Nat.le_of_ble_eq_true rfl, Nat.le_of_ble_eq_true rfl⟩ dL_law_503 (fun r V1 H1 locs1 hq hP hS => ?_)
  obtain ⟨hr, p_so, p_x, p_u, p_ho, p_sg, p_hs, h2⟩ := hq
  subst hr
  have p_w := p_w.keep (V1 := V1) (fun k h8 h9 => h2 k (by omega))
  have p_z1 := p_z1.keep (V1 := V1) (fun k h8 h9 => h2 k (by omega))
  have p_x1 := p_x1.keep (V1 := V1) (fun k h8 h9 => h2 k (by omega))
  have p_u1 := p_u1.keep (V1 := V1) (fun k h8 h9 => h2 k (by omega))
  have p_z2 := p_z2.keep (V1 := V1) (fun k h8 h9 => h2 k (by omega))
  have p_x2 := p_x2.keep (V1 := V1) (fun k h8 h9 => h2 k (by omega))
  have p_u2 := p_u2.keep (V1 := V1) (fun k h8 h9 => h2 k (by omega))
  have p_tx := p_tx.keep (V1 := V1) (fun k h8 h9 => h2 k (by omega))
  have p_nu := p_nu.keep (V1 := V1) (fun k h8 h9 => h2 k (by omega))
  have p_y := p_y.keep (V1 := V1) (fun k h8 h9 => h2 k (by omega))
  refine lv_aload_n hx hb dL_law_506 rfl (lv_at hl 1 rfl) ?_
  refine r_callM (As := []) (rest := [.int ((f_X5_undo w so x u ho sg hs ).1)]) (ci := 6) X hP hS (c_X6_undo inj_z p_y  hst) o_X6_undo rfl p_y.lt p_y.ob m579 ⟨rfl, rfl⟩ ⟨Nat.le_of_ble_eq_true rfl, Nat.le_of_ble_eq_true rfl⟩ rfl hl.1 rfl (Nat.le_of_ble_eq_true rfl) ⟨Nat.le_of_ble_eq_true rfl, Nat.le_of_ble_eq_true rfl⟩ dL_law_507 (fun r V2 H2 locs2 hq hP hS => ?_)
  obtain ⟨hr, p_y, h2⟩ := hq
  subst hr
  have p_w := p_w.keep (V1 := V2) (fun k h8 h9 => h2 k (by omega))
  have p_so := p_so.keep (V1 := V2) (fun k h8 h9 => h2 k (by omega))
  have p_x := p_x.keep (V1 := V2) (fun k h8 h9 => h2 k (by omega))
  have p_u := p_u.keep (V1 := V2) (fun k h8 h9 => h2 k (by omega))
  have p_ho := p_ho.keep (V1 := V2) (fun k h8 h9 => h2 k (by omega))
  have p_sg := p_sg.keep (V1 := V2) (fun k h8 h9 => h2 k (by omega))
  have p_hs := p_hs.keep (V1 := V2) (fun k h8 h9 => h2 k (by omega))
  have p_z1 := p_z1.keep (V1 := V2) (fun k h8 h9 => h2 k (by omega))
  have p_x1 := p_x1.keep (V1 := V2) (fun k h8 h9 => h2 k (by omega))
  have p_u1 := p_u1.keep (V1 := V2) (fun k h8 h9 => h2 k (by omega))
  have p_z2 := p_z2.keep (V1 := V2) (fun k h8 h9 => h2 k (by omega))
  have p_x2 := p_x2.keep (V1 := V2) (fun k h8 h9 => h2 k (by omega))
  have p_u2 := p_u2.keep (V1 := V2) (fun k h8 h9 => h2 k (by omega))
  have p_tx := p_tx.keep (V1 := V2) (fun k h8 h9 => h2 k (by omega))
  have p_nu := p_nu.keep (V1 := V2) (fun k h8 h9 => h2 k (by omega))
  have hw := w_undo (w := w) hrs hrh 
  refine lv_icmp_eq (tgt := 798) hx hb dL_law_510 (by decide) (fun _ => ?_) (fun q => absurd hw.1 q)
  have hR : Rel (w) ((f_X5_undo w so x u ho sg hs ).2.1) ((f_X5_undo w so x u ho sg hs ).2.2.1) ((f_X5_undo w so x u ho sg hs ).2.2.2.1) ((f_X5_undo w so x u ho sg hs ).2.2.2.2.1) ((f_X5_undo w so x u ho sg hs ).2.2.2.2.2.1) ((f_X5_undo w so x u ho sg hs ).2.2.2.2.2.2) (z2) (x2) (u2) (tx) ((f_X6_undo y ).2) := ⟨hw.2.1, hw.2.2, (by rw [u_X6_undo_0_5, u_X6_undo_0_2]; exact hrq), (by rw [u_X6_undo_0_7, u_X6_undo_0_6]; exact hrt)⟩
  exact G (w) ((f_X5_undo w so x u ho sg hs ).2.1) ((f_X5_undo w so x u ho sg hs ).2.2.1) ((f_X5_undo w so x u ho sg hs ).2.2.2.1) ((f_X5_undo w so x u ho sg hs ).2.2.2.2.1) ((f_X5_undo w so x u ho sg hs ).2.2.2.2.2.1) ((f_X5_undo w so x u ho sg hs ).2.2.2.2.2.2) (z1) (x1) (u1) (z2) (x2) (u2) (tx) (nu) ((f_X6_undo y ).2) V2 H2 locs2 ls hR ⟨p_w, p_so, p_x, p_u, p_ho, p_sg, p_hs, p_z1, p_x1, p_u1, p_z2, p_x2, p_u2, p_tx, p_nu, p_y⟩ hP hS hl
set_option maxHeartbeats 4000000 in
set_option maxRecDepth 100000 in
theorem law_keep {p : Program} {l : Launch} {e : Env} {s : State} {m : MethodId} {below : List Frame} {meth : Method} {c : Code} {dd : va_G} {t : CL4} {z b L i : Nat} {xs : Nat → Int32} (hL : L ≤ 2048) (X : WX p s m #[Value.ref b] c cL_law 4 RL dd t) (hX : va_X b L xs s s.heap) (hbl : b < s.heap.size) (hbA : ¬ dm 412 (adz z) s.heap.size b) (hi : i + 4 ≤ L) (G : LGoal p l e s m below meth c dd t z b i 798) : LGoal p l e s m below meth c dd t z b i 515 := by
  intro w so x u ho sg hs z1 x1 u1 z2 x2 u2 tx nu y V H locs ls hrel hp hP hS hl
  obtain ⟨p_w, p_so, p_x, p_u, p_ho, p_sg, p_hs, p_z1, p_x1, p_u1, p_z2, p_x2, p_u2, p_tx, p_nu, p_y⟩ := hp
  obtain ⟨⟨nn, mm, kk, hrs⟩, hrh, hrq, hrt⟩ := id hrel
  have hx := X.1.1
  have hb := X.1.2.1
  have hro := hrs.row
  have hn := hrs.1.1.1
  have hm := hrs.1.1.2.1
  have hst := hrh.2.1
  have htl := hrt.2.1
  have hsg := hrh.2.2.1
  refine lv_aload_n hx hb dL_law_515 rfl (lv_at hl 2 rfl) ?_
  refine r_callM (As := []) (rest := []) (ci := 5) X hP hS (c_X5_keep inj_z p_w p_so p_x p_u p_z2 p_x2 p_u2  ) o_X5_keep rfl p_w.lt p_w.ob m583 ⟨rfl, rfl⟩ ⟨Nat.le_of_ble_eq_true rfl, Nat.le_of_ble_eq_true rfl⟩ rfl hl.1 rfl (Nat.le_of_ble_eq_true rfl) ⟨Nat.le_of_ble_eq_true rfl, Nat.le_of_ble_eq_true rfl⟩ dL_law_516 (fun r V1 H1 locs1 hq hP hS => ?_)
  obtain ⟨hr, p_w, p_z2, p_x2, p_u2, h2⟩ := hq
  subst hr
  have p_so := p_so.keep (V1 := V1) (fun k h8 h9 => h2 k (by omega))
  have p_x := p_x.keep (V1 := V1) (fun k h8 h9 => h2 k (by omega))
  have p_u := p_u.keep (V1 := V1) (fun k h8 h9 => h2 k (by omega))
  have p_ho := p_ho.keep (V1 := V1) (fun k h8 h9 => h2 k (by omega))
  have p_sg := p_sg.keep (V1 := V1) (fun k h8 h9 => h2 k (by omega))
  have p_hs := p_hs.keep (V1 := V1) (fun k h8 h9 => h2 k (by omega))
  have p_z1 := p_z1.keep (V1 := V1) (fun k h8 h9 => h2 k (by omega))
  have p_x1 := p_x1.keep (V1 := V1) (fun k h8 h9 => h2 k (by omega))
  have p_u1 := p_u1.keep (V1 := V1) (fun k h8 h9 => h2 k (by omega))
  have p_tx := p_tx.keep (V1 := V1) (fun k h8 h9 => h2 k (by omega))
  have p_nu := p_nu.keep (V1 := V1) (fun k h8 h9 => h2 k (by omega))
  have p_y := p_y.keep (V1 := V1) (fun k h8 h9 => h2 k (by omega))
  refine lv_aload_n hx hb dL_law_519 rfl (lv_at hl 1 rfl) ?_
  refine r_callM (As := []) (rest := [.int ((f_X5_keep w so x u z2 x2 u2 ).1)]) (ci := 6) X hP hS (c_X6_keep inj_z p_y  ) o_X6_keep rfl p_y.lt p_y.ob m587 ⟨rfl, rfl⟩ ⟨Nat.le_of_ble_eq_true rfl, Nat.le_of_ble_eq_true rfl⟩ rfl hl.1 rfl (Nat.le_of_ble_eq_true rfl) ⟨Nat.le_of_ble_eq_true rfl, Nat.le_of_ble_eq_true rfl⟩ dL_law_520 (fun r V2 H2 locs2 hq hP hS => ?_)
  obtain ⟨hr, p_y, h2⟩ := hq
  subst hr
  have p_w := p_w.keep (V1 := V2) (fun k h8 h9 => h2 k (by omega))
  have p_so := p_so.keep (V1 := V2) (fun k h8 h9 => h2 k (by omega))
  have p_x := p_x.keep (V1 := V2) (fun k h8 h9 => h2 k (by omega))
  have p_u := p_u.keep (V1 := V2) (fun k h8 h9 => h2 k (by omega))
  have p_ho := p_ho.keep (V1 := V2) (fun k h8 h9 => h2 k (by omega))
  have p_sg := p_sg.keep (V1 := V2) (fun k h8 h9 => h2 k (by omega))
  have p_hs := p_hs.keep (V1 := V2) (fun k h8 h9 => h2 k (by omega))
  have p_z1 := p_z1.keep (V1 := V2) (fun k h8 h9 => h2 k (by omega))
  have p_x1 := p_x1.keep (V1 := V2) (fun k h8 h9 => h2 k (by omega))
  have p_u1 := p_u1.keep (V1 := V2) (fun k h8 h9 => h2 k (by omega))
  have p_z2 := p_z2.keep (V1 := V2) (fun k h8 h9 => h2 k (by omega))
  have p_x2 := p_x2.keep (V1 := V2) (fun k h8 h9 => h2 k (by omega))
  have p_u2 := p_u2.keep (V1 := V2) (fun k h8 h9 => h2 k (by omega))
  have p_tx := p_tx.keep (V1 := V2) (fun k h8 h9 => h2 k (by omega))
  have p_nu := p_nu.keep (V1 := V2) (fun k h8 h9 => h2 k (by omega))
  have hw := w_keep (w := w) (z2 := z2) (x2 := x2) (u2 := u2) hrs
  refine lv_icmp_eq (tgt := 798) hx hb dL_law_523 (by decide) (fun _ => ?_) (fun q => absurd hw.1 q)
  have hR : Rel ((f_X5_keep w so x u z2 x2 u2 ).2.1) (so) (x) (u) (ho) (sg) (hs) ((f_X5_keep w so x u z2 x2 u2 ).2.2.1) ((f_X5_keep w so x u z2 x2 u2 ).2.2.2.1) ((f_X5_keep w so x u z2 x2 u2 ).2.2.2.2) (tx) ((f_X6_keep y ).2) := ⟨⟨nn, mm, kk, by rw [u_X6_keep_0_0]; exact hrs⟩, by rw [u_X6_keep_0_4, u_X6_keep_0_1]; exact hrh, hw.2, (by rw [u_X6_keep_0_7, u_X6_keep_0_6]; exact hrt)⟩
  exact G ((f_X5_keep w so x u z2 x2 u2 ).2.1) (so) (x) (u) (ho) (sg) (hs) (z1) (x1) (u1) ((f_X5_keep w so x u z2 x2 u2 ).2.2.1) ((f_X5_keep w so x u z2 x2 u2 ).2.2.2.1) ((f_X5_keep w so x u z2 x2 u2 ).2.2.2.2) (tx) (nu) ((f_X6_keep y ).2) V2 H2 locs2 ls hR ⟨p_w, p_so, p_x, p_u, p_ho, p_sg, p_hs, p_z1, p_x1, p_u1, p_z2, p_x2, p_u2, p_tx, p_nu, p_y⟩ hP hS hl
set_option maxHeartbeats 4000000 in
set_option maxRecDepth 100000 in
theorem law_restore {p : Program} {l : Launch} {e : Env} {s : State} {m : MethodId} {below : List Frame} {meth : Method} {c : Code} {dd : va_G} {t : CL4} {z b L i : Nat} {xs : Nat → Int32} (hL : L ≤ 2048) (X : WX p s m #[Value.ref b] c cL_law 4 RL dd t) (hX : va_X b L xs s s.heap) (hbl : b < s.heap.size) (hbA : ¬ dm 412 (adz z) s.heap.size b) (hi : i + 4 ≤ L) (G : LGoal p l e s m below meth c dd t z b i 798) : LGoal p l e s m below meth c dd t z b i 528 := by
  intro w so x u ho sg hs z1 x1 u1 z2 x2 u2 tx nu y V H locs ls hrel hp hP hS hl
  obtain ⟨p_w, p_so, p_x, p_u, p_ho, p_sg, p_hs, p_z1, p_x1, p_u1, p_z2, p_x2, p_u2, p_tx, p_nu, p_y⟩ := hp
  obtain ⟨⟨nn, mm, kk, hrs⟩, hrh, hrq, hrt⟩ := id hrel
  have hx := X.1.1
  have hb := X.1.2.1
  have hro := hrs.row
  have hn := hrs.1.1.1
  have hm := hrs.1.1.2.1
  have hst := hrh.2.1
  have htl := hrt.2.1
  have hsg := hrh.2.2.1
  refine lv_aload_n hx hb dL_law_528 rfl (lv_at hl 2 rfl) ?_
  refine r_callM (As := []) (rest := []) (ci := 5) X hP hS (c_X5_restore inj_z p_w p_so p_x p_u p_ho p_sg p_hs p_z2 p_x2 p_u2  hsg) o_X5_restore rfl p_w.lt p_w.ob m592 ⟨rfl, rfl⟩ ⟨Nat.le_of_ble_eq_true rfl, Nat.le_of_ble_eq_true rfl⟩ rfl hl.1 rfl (Nat.le_of_ble_eq_true rfl) ⟨Nat.le_of_ble_eq_true rfl, Nat.le_of_ble_eq_true rfl⟩ dL_law_529 (fun r V1 H1 locs1 hq hP hS => ?_)
  obtain ⟨hr, p_so, p_x, p_u, p_ho, p_sg, p_hs, h2⟩ := hq
  subst hr
  have p_w := p_w.keep (V1 := V1) (fun k h8 h9 => h2 k (by omega))
  have p_z1 := p_z1.keep (V1 := V1) (fun k h8 h9 => h2 k (by omega))
  have p_x1 := p_x1.keep (V1 := V1) (fun k h8 h9 => h2 k (by omega))
  have p_u1 := p_u1.keep (V1 := V1) (fun k h8 h9 => h2 k (by omega))
  have p_z2 := p_z2.keep (V1 := V1) (fun k h8 h9 => h2 k (by omega))
  have p_x2 := p_x2.keep (V1 := V1) (fun k h8 h9 => h2 k (by omega))
  have p_u2 := p_u2.keep (V1 := V1) (fun k h8 h9 => h2 k (by omega))
  have p_tx := p_tx.keep (V1 := V1) (fun k h8 h9 => h2 k (by omega))
  have p_nu := p_nu.keep (V1 := V1) (fun k h8 h9 => h2 k (by omega))
  have p_y := p_y.keep (V1 := V1) (fun k h8 h9 => h2 k (by omega))
  refine lv_aload_n hx hb dL_law_532 rfl (lv_at hl 1 rfl) ?_
  refine r_callM (As := []) (rest := [.int ((f_X5_restore w so x u ho sg hs z2 x2 u2 ).1)]) (ci := 6) X hP hS (c_X6_restore inj_z p_y  hst) o_X6_restore rfl p_y.lt p_y.ob m596 ⟨rfl, rfl⟩ ⟨Nat.le_of_ble_eq_true rfl, Nat.le_of_ble_eq_true rfl⟩ rfl hl.1 rfl (Nat.le_of_ble_eq_true rfl) ⟨Nat.le_of_ble_eq_true rfl, Nat.le_of_ble_eq_true rfl⟩ dL_law_533 (fun r V2 H2 locs2 hq hP hS => ?_)
  obtain ⟨hr, p_y, h2⟩ := hq
  subst hr
  have p_w := p_w.keep (V1 := V2) (fun k h8 h9 => h2 k (by omega))
  have p_so := p_so.keep (V1 := V2) (fun k h8 h9 => h2 k (by omega))
  have p_x := p_x.keep (V1 := V2) (fun k h8 h9 => h2 k (by omega))
  have p_u := p_u.keep (V1 := V2) (fun k h8 h9 => h2 k (by omega))
  have p_ho := p_ho.keep (V1 := V2) (fun k h8 h9 => h2 k (by omega))
  have p_sg := p_sg.keep (V1 := V2) (fun k h8 h9 => h2 k (by omega))
  have p_hs := p_hs.keep (V1 := V2) (fun k h8 h9 => h2 k (by omega))
  have p_z1 := p_z1.keep (V1 := V2) (fun k h8 h9 => h2 k (by omega))
  have p_x1 := p_x1.keep (V1 := V2) (fun k h8 h9 => h2 k (by omega))
  have p_u1 := p_u1.keep (V1 := V2) (fun k h8 h9 => h2 k (by omega))
  have p_z2 := p_z2.keep (V1 := V2) (fun k h8 h9 => h2 k (by omega))
  have p_x2 := p_x2.keep (V1 := V2) (fun k h8 h9 => h2 k (by omega))
  have p_u2 := p_u2.keep (V1 := V2) (fun k h8 h9 => h2 k (by omega))
  have p_tx := p_tx.keep (V1 := V2) (fun k h8 h9 => h2 k (by omega))
  have p_nu := p_nu.keep (V1 := V2) (fun k h8 h9 => h2 k (by omega))
  have hw := w_restore (w := w) hrs hrh hrq 
  refine lv_icmp_eq (tgt := 798) hx hb dL_law_536 (by decide) (fun _ => ?_) (fun q => absurd hw.1 q)
  have hR : Rel (w) ((f_X5_restore w so x u ho sg hs z2 x2 u2 ).2.1) ((f_X5_restore w so x u ho sg hs z2 x2 u2 ).2.2.1) ((f_X5_restore w so x u ho sg hs z2 x2 u2 ).2.2.2.1) ((f_X5_restore w so x u ho sg hs z2 x2 u2 ).2.2.2.2.1) ((f_X5_restore w so x u ho sg hs z2 x2 u2 ).2.2.2.2.2.1) ((f_X5_restore w so x u ho sg hs z2 x2 u2 ).2.2.2.2.2.2) (z2) (x2) (u2) (tx) ((f_X6_restore y ).2) := ⟨hw.2.1, hw.2.2, (by rw [u_X6_restore_0_5, u_X6_restore_0_2]; exact hrq), (by rw [u_X6_restore_0_7, u_X6_restore_0_6]; exact hrt)⟩
  exact G (w) ((f_X5_restore w so x u ho sg hs z2 x2 u2 ).2.1) ((f_X5_restore w so x u ho sg hs z2 x2 u2 ).2.2.1) ((f_X5_restore w so x u ho sg hs z2 x2 u2 ).2.2.2.1) ((f_X5_restore w so x u ho sg hs z2 x2 u2 ).2.2.2.2.1) ((f_X5_restore w so x u ho sg hs z2 x2 u2 ).2.2.2.2.2.1) ((f_X5_restore w so x u ho sg hs z2 x2 u2 ).2.2.2.2.2.2) (z1) (x1) (u1) (z2) (x2) (u2) (tx) (nu) ((f_X6_restore y ).2) V2 H2 locs2 ls hR ⟨p_w, p_so, p_x, p_u, p_ho, p_sg, p_hs, p_z1, p_x1, p_u1, p_z2, p_x2, p_u2, p_tx, p_nu, p_y⟩ hP hS hl
