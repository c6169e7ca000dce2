/-! ===== what the tables say at the law's entry ===== -/
theorem dd_known {s : State} {b : Nat} (hts : ∀ w ∈ lw_tbl, w.before #[Value.ref b] s = true) : ∃ dd : va_G, ∀ (k : Nat) (q : vw_C), vwCl[k]? = some q → u_Kn s q.1 q.2.1 q.2.2 (dd.1 k) (dd.2 k) := by
  obtain ⟨c0, i0, h0⟩ := u_known (C := RX0) (T := TX0) (N := 2) (n := 2) hts (fun w hw => GW_in w (inlX0 w hw)) (hts _ (GW_in _ m24))
  obtain ⟨c1, i1, h1⟩ := u_known (C := RX1) (T := TX1) (N := 4) (n := 4) hts (fun w hw => GW_in w (inlX1 w hw)) (hts _ (GW_in _ m38))
  obtain ⟨c2, i2, h2⟩ := u_known (C := RX2) (T := TX2) (N := 2) (n := 2) hts (fun w hw => GW_in w (inlX2 w hw)) (hts _ (GW_in _ m20))
  obtain ⟨c3, i3, h3⟩ := u_known (C := RX3) (T := TX3) (N := 7) (n := 7) hts (fun w hw => GW_in w (inlX3 w hw)) (hts _ (GW_in _ m34))
  obtain ⟨c4, i4, h4⟩ := u_known (C := RX4) (T := TX4) (N := 4) (n := 4) hts (fun w hw => GW_in w (inlX4 w hw)) (hts _ (GW_in _ m13))
  obtain ⟨c5, i5, h5⟩ := u_known (C := RX5) (T := TX5) (N := 7) (n := 7) hts (fun w hw => GW_in w (inlX5 w hw)) (hts _ (GW_in _ m1))
  obtain ⟨c6, i6, h6⟩ := u_known (C := RX6) (T := TX6) (N := 10) (n := 10) hts (fun w hw => GW_in w (inlX6 w hw)) (hts _ (GW_in _ m4))
  refine ⟨(fun k => if k = 0 then c0 else if k = 1 then c1 else if k = 2 then c2 else if k = 3 then c3 else if k = 4 then c4 else if k = 5 then c5 else c6, fun k => if k = 0 then i0 else if k = 1 then i1 else if k = 2 then i2 else if k = 3 then i3 else if k = 4 then i4 else if k = 5 then i5 else i6), ?_⟩
  intro k q hq
  match k, hq with
  | 0, hq => cases hq; exact h0
  | 1, hq => cases hq; exact h1
  | 2, hq => cases hq; exact h2
  | 3, hq => cases hq; exact h3
  | 4, hq => cases hq; exact h4
  | 5, hq => cases hq; exact h5
  | 6, hq => cases hq; exact h6
  | k + 7, hq => simp at hq
theorem arr_of {s : State} {cA comp : ClassId} {k : Class} {ty : FieldType} (h2 : s.vm.classes[cA]? = some k) (h3 : k.kind = .array comp ty) : ArrOfT s cA ty := fun n z => ⟨fun k h => (by cases h), k, h2, comp, h3⟩
theorem t4_known {s : State} {b : Nat} (hts : ∀ w ∈ lw_tbl, w.before #[Value.ref b] s = true) (hAG : AG s) (hAO : va_AO RX4 s) : ∃ t : CL4, ∀ (k : Nat) (q : ClassId × FieldType), (tyL t)[k]? = some q → ArrOfT s q.1 q.2 ∧ va_RA s q.1 q.2 := by
  obtain ⟨a1, a2, a3, a4, a5, a6⟩ := Cond.arrayClass_spec (hts _ (GW_in _ m27))
  obtain ⟨b1, b2, b3, b4, b5, b6⟩ := Cond.arrayClass_spec (hts _ (GW_in _ m76))
  obtain ⟨e1, e2, e3, e4, e5, e6, e7, e8⟩ := hAG.spec
  obtain ⟨g1, g2, g3, g4, g5, g6, g7, g8⟩ := Cond.arrayOver_spec hAO
  refine ⟨(a1, b1, e2, g2), ?_⟩
  intro k q hq
  match k, hq with
  | 0, hq => cases hq; exact ⟨arr_of a5 a6, a4⟩
  | 1, hq => cases hq; exact ⟨arr_of b5 b6, b4⟩
  | 2, hq => cases hq; exact ⟨arr_of e6 e7, e8⟩
  | 3, hq => cases hq; exact ⟨arr_of g6 g7, ⟨g3, g1, g6, g7, g4, g8⟩⟩
  | k + 4, hq => simp [tyL] at hq
