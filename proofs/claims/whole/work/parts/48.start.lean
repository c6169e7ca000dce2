/-! ===== the law's start ===== -/
theorem ZoP.grow {N N' : Nat} {ad : Nat → Nat} {V : Nat → va_E} {t : CL4} {b : Nat} {x : ZoC} (h : ZoP N ad V t b x) (q : N ≤ N') : ZoP N' ad V t b x := ⟨Nat.le_trans h.le q, h.2⟩
theorem NuP.grow {N N' : Nat} {V : Nat → va_E} {t : CL4} {b : Nat} {x : Nat → Int32} (h : NuP N V t b x) (q : N ≤ N') : NuP N' V t b x := ⟨Nat.lt_of_lt_of_le h.1 q, h.2⟩
set_option maxHeartbeats 4000000 in
set_option maxRecDepth 100000 in
theorem whole_start {p : Program} {e : Env} {s : State} {m : MethodId} {below : List Frame} {meth : Method} {c : Code} (l : Launch) (hflags : l.flags = flags0) {b L : Nat} {xs : Nat → Int32} (hL : L ≤ 2048) (C0 : lw_At p s m meth c b L xs) : W p l e room_1 s m #[Value.ref b] below meth c s.heap [] 0 0 (lw_Z below #[Value.ref b] s) (entryFrame m ([Value.ref b] : List Value).toArray 4) := by
  obtain ⟨hx, hb, hr, hml, hown, hts, hX, hbl, hlocks, hgv⟩ := id C0
  obtain ⟨dd, t, hC⟩ := e_cx hts
  have X : WX p s m #[Value.ref b] c cL_law 4 RL dd t := ⟨⟨hx, hb, hml, hown, fun w hw => hts w (GW_in w hw)⟩, hC.1⟩
  obtain ⟨z, hz0⟩ : ∃ z, s.heap.size = z := ⟨_, rfl⟩
  have hS : va_S (Az z) s.heap s.heap [] := va_S.rf
  have hz : s.heap.size = z + 0 := hz0
  have hP : HP dd 0 (adz z) (fun _ => .inr (0, [])) s.heap := fun k q h => absurd (wd_of h).1 (Nat.not_lt_zero k)
  have hl := lv_entry ([.ref b]) (n := 4) (Nat.le_of_ble_eq_true rfl)
  rw [lg_entry_eq]
  generalize (lg_sl ([.ref b]) ++ List.replicate (4 - (lg_sl ([.ref b])).length) Slot.unset).toArray = ls at hl ⊢
  have hl : lv_has ls 4 [(0, .ref b)] := hl
  refine c_new (ci := 5) (fs := [.null, .null, .null, .int 0, .null, .null, .null]) X hP hz hS rfl inlX5 tyX5 tyX5_ok m0 m1 m2 (fun j hj => by rcases (show j = 0 ∨ j = 1 ∨ j = 2 ∨ j = 3 ∨ j = 4 ∨ j = 5 ∨ j = 6 by omega) with rfl | rfl | rfl | rfl | rfl | rfl | rfl <;> rfl) (Nat.le_of_ble_eq_true rfl) (Nat.le_of_ble_eq_true rfl) dL_law_0 (fun V1 H1 hnw h2 hP hz hS => ?_)
  have hP : HP dd (0 + 1) (adz z) V1 H1 := hP
  have hz : H1.size = z + (0 + 1) := hz
  have hnw : V1 0 = .inr (5, [.null, .null, .null, .int 0, .null, .null, .null]) := hnw
  refine W.widen (k := 1) (n := 7) (Nat.le_of_ble_eq_true rfl) (Nat.le_of_ble_eq_true rfl) ?_
  refine lv_dup hx hb dL_law_3 rfl ?_
  refine r_callI (b := 0) (rest := [.ref (adz z 0)]) (w := 404) (sl := 3576) X hC hz hP hS (c_X5_init hnw) m8 m2 m7 m6 ⟨by decide +kernel, by decide +kernel, by decide +kernel⟩ (by decide +kernel) ⟨rfl, rfl⟩ ⟨Nat.le_of_ble_eq_true rfl, Nat.le_of_ble_eq_true rfl⟩ hl.1 (Nat.le_of_ble_eq_true rfl) ⟨Nat.le_of_ble_eq_true rfl, Nat.le_of_ble_eq_true rfl⟩ dL_law_4 (fun V2 H2 locs2 hq hP hz hS => ?_)
  obtain ⟨q0, ⟨q1, q2, q3⟩, ⟨q4, q5, q6⟩, ⟨q7, q8, q9⟩, ⟨q10, q11, q12⟩, q13, q14, hlo⟩ := hq
  have hP : HP dd 405 (adz z) V2 H2 := hP
  have hz : H2.size = z + 405 := hz
  refine W.widen (k := 405) (n := 3583) (Nat.le_of_ble_eq_true rfl) (Nat.le_of_ble_eq_true rfl) ?_
  refine lv_astore_n (lv' := [(1, .ref (adz z 0)), (0, .ref b)]) hx hb dL_law_7 rfl hl (by decide) rfl (fun ls hl => ?_)
  refine c_new (ci := 6) (fs := [.null, .null, .null, .null, .int 0, .int 0, .null, .int 0, .int 0, .null]) X hP hz hS rfl inlX6 tyX6 tyX6_ok m3 m4 m5 (fun j hj => by rcases (show j = 0 ∨ j = 1 ∨ j = 2 ∨ j = 3 ∨ j = 4 ∨ j = 5 ∨ j = 6 ∨ j = 7 ∨ j = 8 ∨ j = 9 by omega) with rfl | rfl | rfl | rfl | rfl | rfl | rfl | rfl | rfl | rfl <;> rfl) (Nat.le_of_ble_eq_true rfl) (Nat.le_of_ble_eq_true rfl) dL_law_8 (fun V3 H3 hnw h2 hP hz hS => ?_)
  have hP : HP dd (405 + 1) (adz z) V3 H3 := hP
  have hz : H3.size = z + (405 + 1) := hz
  have hnw : V3 405 = .inr (6, [.null, .null, .null, .null, .int 0, .int 0, .null, .int 0, .int 0, .null]) := hnw
  refine W.widen (k := 406) (n := 3593) (Nat.le_of_ble_eq_true rfl) (Nat.le_of_ble_eq_true rfl) ?_
  refine lv_dup hx hb dL_law_11 rfl ?_
  refine r_callI (b := 405) (rest := [.ref (adz z 405)]) (w := 6) (sl := 3176) X hC hz hP hS (c_X6_init hnw) m81 m5 m80 m79 ⟨by decide +kernel, by decide +kernel, by decide +kernel⟩ (by decide +kernel) ⟨rfl, rfl⟩ ⟨Nat.le_of_ble_eq_true rfl, Nat.le_of_ble_eq_true rfl⟩ hl.1 (Nat.le_of_ble_eq_true rfl) ⟨Nat.le_of_ble_eq_true rfl, Nat.le_of_ble_eq_true rfl⟩ dL_law_12 (fun V4 H4 locs4 hq hP hz hS => ?_)
  obtain ⟨q15, hlo4⟩ := hq
  have hP : HP dd 412 (adz z) V4 H4 := hP
  have hz : H4.size = z + 412 := hz
  refine W.widen (k := 412) (n := 6769) (Nat.le_of_ble_eq_true rfl) (Nat.le_of_ble_eq_true rfl) ?_
  refine lv_astore_n (lv' := [(2, .ref (adz z 405)), (1, .ref (adz z 0)), (0, .ref b)]) hx hb dL_law_15 rfl hl (by decide) rfl (fun ls hl => ?_)
  refine lv_iconst (v := nI 0) hx hb dL_law_16 (by decide) ?_
  refine lv_istore_n (lv' := [(3, .int (nI 0)), (2, .ref (adz z 405)), (1, .ref (adz z 0)), (0, .ref b)]) hx hb dL_law_17 rfl hl (by decide) rfl (fun ls hl => ?_)
  have k4 : ∀ k, k < 405 → V4 k = V2 k := fun k hk => (hlo4 k (by omega)).trans (h2 k (by omega))
  have q0 := (q0.keep (V1 := V4) (fun k h8 h9 => k4 k (by omega))).grow (show 0 + 405 ≤ 412 by omega)
  have q1 := (q1.keep (V1 := V4) (fun k h8 h9 => k4 k (by omega))).grow (show 0 + 405 ≤ 412 by omega)
  have q2 := (q2.keep (V1 := V4) (fun k h8 h9 => k4 k (by omega))).grow (show 0 + 405 ≤ 412 by omega)
  have q3 := (q3.keep (V1 := V4) (fun k h8 h9 => k4 k (by omega))).grow (show 0 + 405 ≤ 412 by omega)
  have q4 := (q4.keep (V1 := V4) (fun k h8 h9 => k4 k (by omega))).grow (show 0 + 405 ≤ 412 by omega)
  have q5 := (q5.keep (V1 := V4) (fun k h8 h9 => k4 k (by omega))).grow (show 0 + 405 ≤ 412 by omega)
  have q6 := (q6.keep (V1 := V4) (fun k h8 h9 => k4 k (by omega))).grow (show 0 + 405 ≤ 412 by omega)
  have q7 := (q7.keep (V1 := V4) (fun k h8 h9 => k4 k (by omega))).grow (show 0 + 405 ≤ 412 by omega)
  have q8 := (q8.keep (V1 := V4) (fun k h8 h9 => k4 k (by omega))).grow (show 0 + 405 ≤ 412 by omega)
  have q9 := (q9.keep (V1 := V4) (fun k h8 h9 => k4 k (by omega))).grow (show 0 + 405 ≤ 412 by omega)
  have q10 := (q10.keep (V1 := V4) (fun k h8 h9 => k4 k (by omega))).grow (show 0 + 405 ≤ 412 by omega)
  have q11 := (q11.keep (V1 := V4) (fun k h8 h9 => k4 k (by omega))).grow (show 0 + 405 ≤ 412 by omega)
  have q12 := (q12.keep (V1 := V4) (fun k h8 h9 => k4 k (by omega))).grow (show 0 + 405 ≤ 412 by omega)
  have q13 := (q13.keep (V1 := V4) (fun k h8 h9 => k4 k (by omega))).grow (show 0 + 405 ≤ 412 by omega)
  have q14 := (q14.keep (V1 := V4) (fun k h8 h9 => k4 k (by omega))).grow (show 0 + 405 ≤ 412 by omega)
  exact law_loop hL X hr hlocks hX hbl hz0 (L + 5) 0 (by omega) (by omega) _ _ _ _ _ _ _ _ _ _ _ _ _ _ _ _ V4 H4 _ ls rel0 ⟨q0, q1, q2, q3, q10, q11, q12, q4, q5, q6, q7, q8, q9, q13, q14, q15⟩ hP (toD (N0 := 0) hz0 (Nat.zero_le _) hS) hl
