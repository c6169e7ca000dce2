/-! branches, by what is decided: x < y or not; naturals beside 0; the end of a switch -/
theorem i_nlt {x y : Int32} : ¬ x < y ↔ y ≤ x := by rw [Int32.lt_iff_toInt_lt, Int32.le_iff_toInt_le]; omega
theorem i_nle {x y : Int32} : ¬ y ≤ x ↔ x < y := by rw [Int32.lt_iff_toInt_lt, Int32.le_iff_toInt_le]; omega
theorem nar_b01 (q : Bool) : narrow .boolean (.int (b01 q)) = .int (b01 q) := by cases q <;> rfl
theorem fit_b01 (q : Bool) : fits .boolean (.int (b01 q)) = true := by cases q <;> rfl
section JR
variable {p : Program} {l : Launch} {e : Env} {R : Room} {s : State} {m : MethodId} {as : Array Value} {below : List Frame} {meth : Method} {c : Code} {H H0 : Heap} {locs : List Loc} {cells slots : Nat} {Q : State → Prop}
variable {cc : ByteArray} {pc : Nat} {ls : Array Slot} {rest : List Value}
theorem j_lt (hexec : p.tables.exec = Jvm.exec) (hb : c.code = cc) {x y : Int32} {off : Int} {tgt : Nat} (hdg : decode cc pc = .ok (.if_icmp .lt off, 3)) (ht : (pc : Int) + off = (tgt : Int)) (kt : x < y → W p l e R s m as below meth c H locs cells slots Q (F0 m tgt ls rest)) (kf : ¬ x < y → W p l e R s m as below meth c H locs cells slots Q (F0 m (pc + 3) ls rest)) : W p l e R s m as below meth c H locs cells slots Q (F0 m pc ls (.int y :: .int x :: rest)) := lv_icmp_lt hexec hb hdg ht (fun h => kt (h)) (fun h => kf (h))
theorem j_ge (hexec : p.tables.exec = Jvm.exec) (hb : c.code = cc) {x y : Int32} {off : Int} {tgt : Nat} (hdg : decode cc pc = .ok (.if_icmp .ge off, 3)) (ht : (pc : Int) + off = (tgt : Int)) (kt : ¬ x < y → W p l e R s m as below meth c H locs cells slots Q (F0 m tgt ls rest)) (kf : x < y → W p l e R s m as below meth c H locs cells slots Q (F0 m (pc + 3) ls rest)) : W p l e R s m as below meth c H locs cells slots Q (F0 m pc ls (.int y :: .int x :: rest)) := lv_icmp_ge hexec hb hdg ht (fun h => kt (i_nlt.mpr h)) (fun h => kf (i_nle.mp h))
theorem j_gt (hexec : p.tables.exec = Jvm.exec) (hb : c.code = cc) {x y : Int32} {off : Int} {tgt : Nat} (hdg : decode cc pc = .ok (.if_icmp .gt off, 3)) (ht : (pc : Int) + off = (tgt : Int)) (kt : y < x → W p l e R s m as below meth c H locs cells slots Q (F0 m tgt ls rest)) (kf : ¬ y < x → W p l e R s m as below meth c H locs cells slots Q (F0 m (pc + 3) ls rest)) : W p l e R s m as below meth c H locs cells slots Q (F0 m pc ls (.int y :: .int x :: rest)) := lv_icmp_gt hexec hb hdg ht (fun h => kt (h)) (fun h => kf (h))
theorem j_le (hexec : p.tables.exec = Jvm.exec) (hb : c.code = cc) {x y : Int32} {off : Int} {tgt : Nat} (hdg : decode cc pc = .ok (.if_icmp .le off, 3)) (ht : (pc : Int) + off = (tgt : Int)) (kt : ¬ y < x → W p l e R s m as below meth c H locs cells slots Q (F0 m tgt ls rest)) (kf : y < x → W p l e R s m as below meth c H locs cells slots Q (F0 m (pc + 3) ls rest)) : W p l e R s m as below meth c H locs cells slots Q (F0 m pc ls (.int y :: .int x :: rest)) := lv_icmp_le hexec hb hdg ht (fun h => kt (i_nlt.mpr h)) (fun h => kf (i_nle.mp h))
theorem u_lt (hexec : p.tables.exec = Jvm.exec) (hb : c.code = cc) {x : Int32} {off : Int} {tgt : Nat} (hdg : decode cc pc = .ok (.ifCond .lt off, 3)) (ht : (pc : Int) + off = (tgt : Int)) (kt : x < 0 → W p l e R s m as below meth c H locs cells slots Q (F0 m tgt ls rest)) (kf : ¬ x < 0 → W p l e R s m as below meth c H locs cells slots Q (F0 m (pc + 3) ls rest)) : W p l e R s m as below meth c H locs cells slots Q (F0 m pc ls (.int x :: rest)) := lv_if_lt hexec hb hdg ht (fun h => kt (h)) (fun h => kf (h))
theorem u_ge (hexec : p.tables.exec = Jvm.exec) (hb : c.code = cc) {x : Int32} {off : Int} {tgt : Nat} (hdg : decode cc pc = .ok (.ifCond .ge off, 3)) (ht : (pc : Int) + off = (tgt : Int)) (kt : ¬ x < 0 → W p l e R s m as below meth c H locs cells slots Q (F0 m tgt ls rest)) (kf : x < 0 → W p l e R s m as below meth c H locs cells slots Q (F0 m (pc + 3) ls rest)) : W p l e R s m as below meth c H locs cells slots Q (F0 m pc ls (.int x :: rest)) := lv_if_ge hexec hb hdg ht (fun h => kt (i_nlt.mpr h)) (fun h => kf (i_nle.mp h))
theorem u_gt (hexec : p.tables.exec = Jvm.exec) (hb : c.code = cc) {x : Int32} {off : Int} {tgt : Nat} (hdg : decode cc pc = .ok (.ifCond .gt off, 3)) (ht : (pc : Int) + off = (tgt : Int)) (kt : 0 < x → W p l e R s m as below meth c H locs cells slots Q (F0 m tgt ls rest)) (kf : ¬ 0 < x → W p l e R s m as below meth c H locs cells slots Q (F0 m (pc + 3) ls rest)) : W p l e R s m as below meth c H locs cells slots Q (F0 m pc ls (.int x :: rest)) := lv_if_gt hexec hb hdg ht (fun h => kt (h)) (fun h => kf (h))
theorem u_le (hexec : p.tables.exec = Jvm.exec) (hb : c.code = cc) {x : Int32} {off : Int} {tgt : Nat} (hdg : decode cc pc = .ok (.ifCond .le off, 3)) (ht : (pc : Int) + off = (tgt : Int)) (kt : ¬ 0 < x → W p l e R s m as below meth c H locs cells slots Q (F0 m tgt ls rest)) (kf : 0 < x → W p l e R s m as below meth c H locs cells slots Q (F0 m (pc + 3) ls rest)) : W p l e R s m as below meth c H locs cells slots Q (F0 m pc ls (.int x :: rest)) := lv_if_le hexec hb hdg ht (fun h => kt (i_nlt.mpr h)) (fun h => kf (i_nle.mp h))
theorem z_eq (hexec : p.tables.exec = Jvm.exec) (hb : c.code = cc) {x : Nat} (hx : x < 2 ^ 31) {off : Int} {tgt : Nat} (hdg : decode cc pc = .ok (.ifCond .eq off, 3)) (ht : (pc : Int) + off = (tgt : Int)) (kt : x = 0 → W p l e R s m as below meth c H locs cells slots Q (F0 m tgt ls rest)) (kf : x ≠ 0 → W p l e R s m as below meth c H locs cells slots Q (F0 m (pc + 3) ls rest)) : W p l e R s m as below meth c H locs cells slots Q (F0 m pc ls (.int (nI x) :: rest)) := lv_if_eq hexec hb hdg ht (fun h => kt ((nI_eq (b := 0) hx (by omega)).mp h)) (fun h => kf (fun e => h ((nI_eq (b := 0) hx (by omega)).mpr e)))
theorem z_ne (hexec : p.tables.exec = Jvm.exec) (hb : c.code = cc) {x : Nat} (hx : x < 2 ^ 31) {off : Int} {tgt : Nat} (hdg : decode cc pc = .ok (.ifCond .ne off, 3)) (ht : (pc : Int) + off = (tgt : Int)) (kt : x ≠ 0 → W p l e R s m as below meth c H locs cells slots Q (F0 m tgt ls rest)) (kf : x = 0 → W p l e R s m as below meth c H locs cells slots Q (F0 m (pc + 3) ls rest)) : W p l e R s m as below meth c H locs cells slots Q (F0 m pc ls (.int (nI x) :: rest)) := lv_if_ne hexec hb hdg ht (fun h => kt (fun e => h ((nI_eq (b := 0) hx (by omega)).mpr e))) (fun h => kf ((nI_eq (b := 0) hx (by omega)).mp h))
theorem z_lt (hexec : p.tables.exec = Jvm.exec) (hb : c.code = cc) {x : Nat} (hx : x < 2 ^ 31) {off : Int} {tgt : Nat} (hdg : decode cc pc = .ok (.ifCond .lt off, 3)) (ht : (pc : Int) + off = (tgt : Int)) (kt : x < 0 → W p l e R s m as below meth c H locs cells slots Q (F0 m tgt ls rest)) (kf : 0 ≤ x → W p l e R s m as below meth c H locs cells slots Q (F0 m (pc + 3) ls rest)) : W p l e R s m as below meth c H locs cells slots Q (F0 m pc ls (.int (nI x) :: rest)) := lv_if_lt hexec hb hdg ht (fun h => kt (absurd h (nI_pos hx))) (fun h => kf (Nat.zero_le _))
theorem z_ge (hexec : p.tables.exec = Jvm.exec) (hb : c.code = cc) {x : Nat} (hx : x < 2 ^ 31) {off : Int} {tgt : Nat} (hdg : decode cc pc = .ok (.ifCond .ge off, 3)) (ht : (pc : Int) + off = (tgt : Int)) (kt : 0 ≤ x → W p l e R s m as below meth c H locs cells slots Q (F0 m tgt ls rest)) (kf : x < 0 → W p l e R s m as below meth c H locs cells slots Q (F0 m (pc + 3) ls rest)) : W p l e R s m as below meth c H locs cells slots Q (F0 m pc ls (.int (nI x) :: rest)) := lv_if_ge hexec hb hdg ht (fun h => kt (Nat.zero_le _)) (fun h => kf (absurd (nI_pos' hx) h))
theorem z_gt (hexec : p.tables.exec = Jvm.exec) (hb : c.code = cc) {x : Nat} (hx : x < 2 ^ 31) {off : Int} {tgt : Nat} (hdg : decode cc pc = .ok (.ifCond .gt off, 3)) (ht : (pc : Int) + off = (tgt : Int)) (kt : 0 < x → W p l e R s m as below meth c H locs cells slots Q (F0 m tgt ls rest)) (kf : x ≤ 0 → W p l e R s m as below meth c H locs cells slots Q (F0 m (pc + 3) ls rest)) : W p l e R s m as below meth c H locs cells slots Q (F0 m pc ls (.int (nI x) :: rest)) := lv_if_gt hexec hb hdg ht (fun h => kt ((nI_ltI (a := 0) (by omega) hx).mp h)) (fun h => kf (Nat.not_lt.mp (fun e => h ((nI_ltI (a := 0) (by omega) hx).mpr e))))
theorem z_le (hexec : p.tables.exec = Jvm.exec) (hb : c.code = cc) {x : Nat} (hx : x < 2 ^ 31) {off : Int} {tgt : Nat} (hdg : decode cc pc = .ok (.ifCond .le off, 3)) (ht : (pc : Int) + off = (tgt : Int)) (kt : x ≤ 0 → W p l e R s m as below meth c H locs cells slots Q (F0 m tgt ls rest)) (kf : 0 < x → W p l e R s m as below meth c H locs cells slots Q (F0 m (pc + 3) ls rest)) : W p l e R s m as below meth c H locs cells slots Q (F0 m pc ls (.int (nI x) :: rest)) := lv_if_le hexec hb hdg ht (fun h => kt ((nI_leI (b := 0) hx (by omega)).mp h)) (fun h => kf (Nat.not_le.mp (fun e => h ((nI_leI (b := 0) hx (by omega)).mpr e))))
end JR
theorem sw_out2 {x : Int32} (h0 : ¬ x = nI 0) (h1 : ¬ x = nI 1) (h2 : ¬ x = nI 2) : x.toInt < 0 ∨ 2 < x.toInt := by
  by_cases h : x.toInt < 0 ∨ 2 < x.toInt
  · exact h
  · exfalso
    have key : ∀ k : Nat, k < 100 → x.toInt = (k : Int) → x = nI k := fun k hk e => Int32.toInt_inj.mp (e.trans (nI_toInt (by omega)).symm)
    have h9 : ∃ k : Nat, k ≤ 2 ∧ x.toInt = (k : Int) := ⟨x.toInt.toNat, by omega, by omega⟩
    obtain ⟨k, hk, e⟩ := h9
    have e2 := key k (by omega) e
    have hc : k = 0 ∨ k = 1 ∨ k = 2 := by omega
    rcases hc with rfl | rfl | rfl
    · exact h0 e2
    · exact h1 e2
    · exact h2 e2
theorem sw_out4 {x : Int32} (h0 : ¬ x = nI 0) (h1 : ¬ x = nI 1) (h2 : ¬ x = nI 2) (h3 : ¬ x = nI 3) (h4 : ¬ x = nI 4) : x.toInt < 0 ∨ 4 < x.toInt := by
  by_cases h : x.toInt < 0 ∨ 4 < x.toInt
  · exact h
  · exfalso
    have key : ∀ k : Nat, k < 100 → x.toInt = (k : Int) → x = nI k := fun k hk e => Int32.toInt_inj.mp (e.trans (nI_toInt (by omega)).symm)
    have h9 : ∃ k : Nat, k ≤ 4 ∧ x.toInt = (k : Int) := ⟨x.toInt.toNat, by omega, by omega⟩
    obtain ⟨k, hk, e⟩ := h9
    have e2 := key k (by omega) e
    have hc : k = 0 ∨ k = 1 ∨ k = 2 ∨ k = 3 ∨ k = 4 := by omega
    rcases hc with rfl | rfl | rfl | rfl | rfl
    · exact h0 e2
    · exact h1 e2
    · exact h2 e2
    · exact h3 e2
    · exact h4 e2
theorem sw_out9 {x : Int32} (h0 : ¬ x = nI 0) (h1 : ¬ x = nI 1) (h2 : ¬ x = nI 2) (h3 : ¬ x = nI 3) (h4 : ¬ x = nI 4) (h5 : ¬ x = nI 5) (h6 : ¬ x = nI 6) (h7 : ¬ x = nI 7) (h8 : ¬ x = nI 8) (h9 : ¬ x = nI 9) : x.toInt < 0 ∨ 9 < x.toInt := by
  by_cases h : x.toInt < 0 ∨ 9 < x.toInt
  · exact h
  · exfalso
    have key : ∀ k : Nat, k < 100 → x.toInt = (k : Int) → x = nI k := fun k hk e => Int32.toInt_inj.mp (e.trans (nI_toInt (by omega)).symm)
    have h9 : ∃ k : Nat, k ≤ 9 ∧ x.toInt = (k : Int) := ⟨x.toInt.toNat, by omega, by omega⟩
    obtain ⟨k, hk, e⟩ := h9
    have e2 := key k (by omega) e
    have hc : k = 0 ∨ k = 1 ∨ k = 2 ∨ k = 3 ∨ k = 4 ∨ k = 5 ∨ k = 6 ∨ k = 7 ∨ k = 8 ∨ k = 9 := by omega
    rcases hc with rfl | rfl | rfl | rfl | rfl | rfl | rfl | rfl | rfl | rfl
    · exact h0 e2
    · exact h1 e2
    · exact h2 e2
    · exact h3 e2
    · exact h4 e2
    · exact h5 e2
    · exact h6 e2
    · exact h7 e2
    · exact h8 e2
    · exact h9 e2
theorem sw_out25 {x : Int32} (h0 : ¬ x = nI 0) (h1 : ¬ x = nI 1) (h2 : ¬ x = nI 2) (h3 : ¬ x = nI 3) (h4 : ¬ x = nI 4) (h5 : ¬ x = nI 5) (h6 : ¬ x = nI 6) (h7 : ¬ x = nI 7) (h8 : ¬ x = nI 8) (h9 : ¬ x = nI 9) (h10 : ¬ x = nI 10) (h11 : ¬ x = nI 11) (h12 : ¬ x = nI 12) (h13 : ¬ x = nI 13) (h14 : ¬ x = nI 14) (h15 : ¬ x = nI 15) (h16 : ¬ x = nI 16) (h17 : ¬ x = nI 17) (h18 : ¬ x = nI 18) (h19 : ¬ x = nI 19) (h20 : ¬ x = nI 20) (h21 : ¬ x = nI 21) (h22 : ¬ x = nI 22) (h23 : ¬ x = nI 23) (h24 : ¬ x = nI 24) (h25 : ¬ x = nI 25) : x.toInt < 0 ∨ 25 < x.toInt := by
  by_cases h : x.toInt < 0 ∨ 25 < x.toInt
  · exact h
  · exfalso
    have key : ∀ k : Nat, k < 100 → x.toInt = (k : Int) → x = nI k := fun k hk e => Int32.toInt_inj.mp (e.trans (nI_toInt (by omega)).symm)
    have h9 : ∃ k : Nat, k ≤ 25 ∧ x.toInt = (k : Int) := ⟨x.toInt.toNat, by omega, by omega⟩
    obtain ⟨k, hk, e⟩ := h9
    have e2 := key k (by omega) e
    have hc : k = 0 ∨ k = 1 ∨ k = 2 ∨ k = 3 ∨ k = 4 ∨ k = 5 ∨ k = 6 ∨ k = 7 ∨ k = 8 ∨ k = 9 ∨ k = 10 ∨ k = 11 ∨ k = 12 ∨ k = 13 ∨ k = 14 ∨ k = 15 ∨ k = 16 ∨ k = 17 ∨ k = 18 ∨ k = 19 ∨ k = 20 ∨ k = 21 ∨ k = 22 ∨ k = 23 ∨ k = 24 ∨ k = 25 := by omega
    rcases hc with rfl | rfl | rfl | rfl | rfl | rfl | rfl | rfl | rfl | rfl | rfl | rfl | rfl | rfl | rfl | rfl | rfl | rfl | rfl | rfl | rfl | rfl | rfl | rfl | rfl | rfl
    · exact h0 e2
    · exact h1 e2
    · exact h2 e2
    · exact h3 e2
    · exact h4 e2
    · exact h5 e2
    · exact h6 e2
    · exact h7 e2
    · exact h8 e2
    · exact h9 e2
    · exact h10 e2
    · exact h11 e2
    · exact h12 e2
    · exact h13 e2
    · exact h14 e2
    · exact h15 e2
    · exact h16 e2
    · exact h17 e2
    · exact h18 e2
    · exact h19 e2
    · exact h20 e2
    · exact h21 e2
    · exact h22 e2
    · exact h23 e2
    · exact h24 e2
    · exact h25 e2
theorem b_f {q : Bool} (h : q = false) : nI 0 = b01 q := by rw [h]; rfl
theorem b_t {q : Bool} (h : q = true) : nI 1 = b01 q := by rw [h]; rfl
theorem b_e {q r : Bool} (h : q = r) : b01 r = b01 q := by rw [h]
