/-! ===== the world at the law's entry ===== -/
theorem e_words {s : State} {b : Nat} (hts : ∀ w ∈ lw_tbl, w.before #[Value.ref b] s = true) : va_Nw nw3 s ∧ va_Nw nw1 s ∧ AG s ∧ va_AO RX4 s :=
  ⟨hts nw3 (by decide +kernel), hts nw1 (by decide +kernel), hts (.arrayOver (.array .int)) (by decide +kernel), hts (.arrayOver (.object RX4)) (by decide +kernel)⟩
theorem e_cx {s : State} {b : Nat} (hts : ∀ w ∈ lw_tbl, w.before #[Value.ref b] s = true) : ∃ (dd : va_G) (t : CL4), Cx2 dd t s := by
  obtain ⟨n3, n1, hAG, hAO⟩ := e_words hts
  obtain ⟨dd, hd⟩ := dd_known hts
  obtain ⟨t, ht⟩ := t4_known hts hAG hAO
  exact ⟨dd, t, ⟨⟨hd, ht⟩, n3, n1⟩, hAO, hAG⟩
