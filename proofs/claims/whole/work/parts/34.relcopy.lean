/-! ===== copies; the history ===== -/
theorem RelP.cl {nn mm : Nat} {x x' : PlC} {r : Nat → Int32} (h : RelP nn mm x r) (e1 : pN x' = pN x) (e2 : pM x' = pM x) (e3 : pO x' = pO x) (e4 : ∀ s, s < nn → pP x' s = pP x s) (e5 : ∀ c, c < mm → pD x' c = pD x c) (e6 : ∀ s c, s < nn → c < mm → pR x' s c = pR x s c) (e7 : ∀ s, s < nn → pE x' s = pE x s) : RelP nn mm x' r := by
  obtain ⟨⟨a1, a2, a3, a4⟩, ⟨b1, b2, b3⟩, c1, c2, c3, c4, c5, c6⟩ := h
  exact ⟨⟨a1, a2, e1.trans a3, e2.trans a4⟩, ⟨b1, b2, e3.trans b3⟩, fun s hs => (e4 s hs).trans (c1 s hs), fun c hc => ⟨(e5 c hc).trans (c2 c hc).1, (c2 c hc).2⟩, fun s c hs hc => ⟨(e6 s c hs hc).trans (c3 s c hs hc).1, (c3 s c hs hc).2⟩, c4, fun s hs => (e7 s hs).trans (c5 s hs), c6⟩
theorem RelP.cg {nn mm : Nat} {x : PlC} {r r' : Nat → Int32} (h : RelP nn mm x r) (e : ∀ j, j < 84 → j ≠ 3 → j ≠ 4 → j ≠ 5 → r' j = r j) : RelP nn mm x r' := by
  obtain ⟨⟨a1, a2, a3, a4⟩, ⟨b1, b2, b3⟩, c1, c2, c3, c4, c5, c6⟩ := h
  refine ⟨⟨a1, a2, a3, a4⟩, ⟨(e 0 (by decide) (by decide) (by decide) (by decide)).trans b1, (e 1 (by decide) (by decide) (by decide) (by decide)).trans b2, b3.trans (e 2 (by decide) (by decide) (by decide) (by decide)).symm⟩, ?_, ?_, ?_, ?_, ?_, ?_⟩
  · intro s hs; rw [e (6 + s) (by omega) (by omega) (by omega) (by omega)]; exact c1 s hs
  · intro c hc; rw [e (13 + c) (by omega) (by omega) (by omega) (by omega)]; exact c2 c hc
  · intro s c hs hc; rw [e (21 + 8 * s + c) (by omega) (by omega) (by omega) (by omega)]; exact c3 s c hs hc
  · intro s c hs hc; rw [e (21 + 8 * s + c) (by omega) (by omega) (by omega) (by omega)]; exact c4 s c hs hc
  · intro s hs; rw [e (77 + s) (by omega) (by omega) (by omega) (by omega)]; exact c5 s hs
  · intro s j hs hj; rw [e (77 + s) (by omega) (by omega) (by omega) (by omega)]
    intro hb
    obtain ⟨q1, q2, q3, q4⟩ := c6 s j hs hj hb
    rw [e (77 + j) (by omega) (by omega) (by omega) (by omega)]
    exact ⟨q1, q2, q3, q4⟩
theorem RelK.cl {nn mm kk : Nat} {y y' : CuC} {r : Nat → Int32} (h : RelK nn mm kk y r) (hm : mm ≤ 8) (e1 : kA y' = kA y) (e2 : ∀ k, k < kk → kC y' k = kC y k) (e3 : ∀ k, k < kk → kS y' k = kS y k) (e4 : ∀ k s, k < kk → s < nn → kW y' k s = kW y k s) : RelK nn mm kk y' r := by
  obtain ⟨a1, a2, a3, a4⟩ := h
  exact ⟨a1, e1.trans a2, a3, fun k hk => (a4 k hk).cg hm (fun _ _ => rfl) (fun _ _ => rfl) (fun _ _ _ _ => rfl) (e2 k hk) (e3 k hk) (fun s hs => e4 k s hk hs)⟩
theorem RelK.cg {nn mm kk : Nat} {y : CuC} {r r' : Nat → Int32} (h : RelK nn mm kk y r) (hn : nn ≤ 7) (hm : mm ≤ 8) (e3 : r' 3 = r 3) (e1 : ∀ i, i < mm → r' (13 + i) = r (13 + i)) (e2 : ∀ s i, s < nn → i < mm → r' (21 + 8 * s + i) = r (21 + 8 * s + i)) (e4 : ∀ j, 84 ≤ j → j < 444 → r' j = r j) : RelK nn mm kk y r' := by
  obtain ⟨a1, a2, a3, a4⟩ := h
  exact ⟨a1, a2, e3.trans a3, fun k hk => (a4 k hk).cg hm e1 (fun i hi => e4 _ (by omega) (by omega)) e2 rfl rfl (fun _ _ => rfl)⟩
theorem RelB.cg {nn mm : Nat} {so so' : SoC} {r r' : Nat → Int32} (h : RelB nn mm so r) (b1 : uB so' = uB so) (b2 : uT so' = uT so) (e4 : r' 4 = r 4) (e5 : r' 5 = r 5) (e2 : ∀ s i, s < nn → i < mm → r' (21 + 8 * s + i) = r (21 + 8 * s + i)) : RelB nn mm so' r' := by
  obtain ⟨h1, h2⟩ := h
  refine ⟨b2.trans (h1.trans e5.symm), ?_⟩
  rcases h2 with ⟨a, b⟩ | ⟨p, hp, a, b, c⟩
  · exact Or.inl ⟨b1.trans a, e4.trans b⟩
  · refine Or.inr ⟨p, hp, b1.trans a, e4.trans b, fun cn hc => ?_⟩
    obtain ⟨k, hk, q1, q2⟩ := c cn hc
    exact ⟨k, hk, q1, by rw [e2 k cn hk hc]; exact q2⟩
theorem RelS.cg {nn mm kk : Nat} {so : SoC} {x : PlC} {y : CuC} {r r' : Nat → Int32} (h : RelS nn mm kk so x y r) (e : ∀ j, j < 444 → r' j = r j) : RelS nn mm kk so x y r' := by
  have hn := h.1.1.1
  have hm := h.1.1.2.1
  exact ⟨h.1.cg (fun j hj _ _ _ => e j (by omega)), h.2.1.cg hn hm (e 3 (by decide)) (fun i hi => e _ (by omega)) (fun s i hs hi => e _ (by omega)) (fun j _ hj => e j hj), h.2.2.cg rfl rfl (e 4 (by decide)) (e 5 (by decide)) (fun s i hs hi => e _ (by omega))⟩
/-! copyFrom of places -/
theorem cp_58 {x x2 : PlC} {i : Nat} {u3 : Nat → Int32} {u5 : Nat → Nat → Int32} {u6 : Nat → Int32} : ∀ (d c0 : Nat) (v : Nat → Nat → Int32) (s c : Nat), l_X3_copyFrom_58 x x2 i u3 u5 u6 d c0 v s c = if s = i ∧ c0 ≤ c ∧ c < c0 + d then pR x2 i c else v s c := by
  intro d
  induction d with
  | zero => intro c0 v s c; rw [l_X3_copyFrom_58, if_neg (by omega)]
  | succ d ih =>
    intro c0 v s c
    rw [l_X3_copyFrom_58, ih]
    by_cases q : s = i ∧ c0 + 1 ≤ c ∧ c < c0 + 1 + d
    · rw [if_pos q, if_pos (by omega)]
    · rw [if_neg q]
      by_cases e : s = i
      · rw [e, va_up_self]
        by_cases e2 : c = c0
        · rw [e2, upd_at, if_pos (by omega)]
        · rw [upd_ne _ _ e2, if_neg (by omega)]
      · rw [va_up_ne _ _ e, if_neg (by omega)]
theorem cp_26 {x x2 : PlC} : ∀ (d i : Nat) (u3 : Nat → Int32) (u5 : Nat → Nat → Int32) (u6 : Nat → Int32), (∀ s, (l_X3_copyFrom_26 x x2 d i u3 u5 u6).1 s = if i ≤ s ∧ s < i + d then pP x2 s else u3 s) ∧ (∀ s c, c < 8 → (l_X3_copyFrom_26 x x2 d i u3 u5 u6).2.1 s c = if i ≤ s ∧ s < i + d then pR x2 s c else u5 s c) ∧ (∀ s, (l_X3_copyFrom_26 x x2 d i u3 u5 u6).2.2 s = if i ≤ s ∧ s < i + d then pE x2 s else u6 s) := by
  intro d
  induction d with
  | zero => intro i u3 u5 u6; exact ⟨fun s => by rw [l_X3_copyFrom_26, if_neg (by omega)], fun s c _ => by rw [l_X3_copyFrom_26, if_neg (by omega)], fun s => by rw [l_X3_copyFrom_26, if_neg (by omega)]⟩
  | succ d ih =>
    intro i u3 u5 u6
    obtain ⟨h1, h2, h3⟩ := ih (i + 1) (upd u3 i (pP x2 i)) (l_X3_copyFrom_58 x x2 i u3 u5 u6 8 0 u5) (upd u6 i (pE x2 i))
    refine ⟨fun s => ?_, fun s c hc => ?_, fun s => ?_⟩
    · rw [l_X3_copyFrom_26, h1]
      by_cases q : i + 1 ≤ s ∧ s < i + 1 + d
      · rw [if_pos q, if_pos (by omega)]
      · rw [if_neg q]
        by_cases e : s = i
        · rw [e, upd_at, if_pos (by omega)]
        · rw [upd_ne _ _ e, if_neg (by omega)]
    · rw [l_X3_copyFrom_26, h2 s c hc, cp_58]
      by_cases q : i + 1 ≤ s ∧ s < i + 1 + d
      · rw [if_pos q, if_pos (by omega)]
      · rw [if_neg q]
        by_cases e : s = i
        · rw [if_pos (by omega), if_pos (by omega), e]
        · rw [if_neg (by omega), if_neg (by omega)]
    · rw [l_X3_copyFrom_26, h3]
      by_cases q : i + 1 ≤ s ∧ s < i + 1 + d
      · rw [if_pos q, if_pos (by omega)]
      · rw [if_neg q]
        by_cases e : s = i
        · rw [e, upd_at, if_pos (by omega)]
        · rw [upd_ne _ _ e, if_neg (by omega)]
theorem cp_94 {x x2 : PlC} : ∀ (d i : Nat) (v : Nat → Int32) (c : Nat), l_X3_copyFrom_94 x x2 d i v c = if i ≤ c ∧ c < i + d then pD x2 c else v c := by
  intro d
  induction d with
  | zero => intro i v c; rw [l_X3_copyFrom_94, if_neg (by omega)]
  | succ d ih =>
    intro i v c
    rw [l_X3_copyFrom_94, ih]
    by_cases q : i + 1 ≤ c ∧ c < i + 1 + d
    · rw [if_pos q, if_pos (by omega)]
    · rw [if_neg q]
      by_cases e : c = i
      · rw [e, upd_at, if_pos (by omega)]
      · rw [upd_ne _ _ e, if_neg (by omega)]
theorem RelP.copy {nn mm : Nat} {x x2 : PlC} {r : Nat → Int32} (h : RelP nn mm x2 r) : RelP nn mm (f_X3_copyFrom x x2) r := by
  have hn := h.1.1
  have hm := h.1.2.1
  obtain ⟨h1, h2, h3⟩ := cp_26 (x := x) (x2 := x2) 7 0 (pP x) (pR x) (pE x)
  refine h.cl rfl rfl rfl (fun s hs => ?_) (fun c hc => ?_) (fun s c hs hc => ?_) (fun s hs => ?_)
  · exact (h1 s).trans (if_pos (by omega))
  · exact (cp_94 (x := x) (x2 := x2) 8 0 (pD x) c).trans (if_pos (by omega))
  · exact (h2 s c (by omega)).trans (if_pos (by omega))
  · exact (h3 s).trans (if_pos (by omega))
/-! copyFrom of cuts -/
theorem cc_27 {y y2 : CuC} {f g : Nat} : ∀ (d i : Nat) (v : Nat → Nat → Int32) (k s : Nat), l_X1_copyCut_27 y y2 f g d i v k s = if k = g ∧ i ≤ s ∧ s < i + d then kW y2 f s else v k s := by
  intro d
  induction d with
  | zero => intro i v k s; rw [l_X1_copyCut_27, if_neg (by omega)]
  | succ d ih =>
    intro i v k s
    rw [l_X1_copyCut_27, ih]
    by_cases q : k = g ∧ i + 1 ≤ s ∧ s < i + 1 + d
    · rw [if_pos q, if_pos (by omega)]
    · rw [if_neg q]
      by_cases e : k = g
      · rw [e, va_up_self]
        by_cases e2 : s = i
        · rw [e2, upd_at, if_pos (by omega)]
        · rw [upd_ne _ _ e2, if_neg (by omega)]
      · rw [va_up_ne _ _ e, if_neg (by omega)]
theorem cf_10 {y y2 : CuC} : ∀ (d i : Nat) (u1 u2 : Nat → Int32) (u3 : Nat → Nat → Int32), (∀ k, (l_X1_copyFrom_10 y y2 d i u1 u2 u3).1 k = if i ≤ k ∧ k < i + d then kC y2 k else u1 k) ∧ (∀ k, (l_X1_copyFrom_10 y y2 d i u1 u2 u3).2.1 k = if i ≤ k ∧ k < i + d then kS y2 k else u2 k) ∧ (∀ k s, s < 7 → (l_X1_copyFrom_10 y y2 d i u1 u2 u3).2.2 k s = if i ≤ k ∧ k < i + d then kW y2 k s else u3 k s) := by
  intro d
  induction d with
  | zero => intro i u1 u2 u3; exact ⟨fun s => by rw [l_X1_copyFrom_10, if_neg (by omega)], fun s => by rw [l_X1_copyFrom_10, if_neg (by omega)], fun s c _ => by rw [l_X1_copyFrom_10, if_neg (by omega)]⟩
  | succ d ih =>
    intro i u1 u2 u3
    obtain ⟨h1, h2, h3⟩ := ih (i + 1) (kC (f_X1_copyCut (mkC (kA y2) u1 u2 u3) y2 i i)) (kS (f_X1_copyCut (mkC (kA y2) u1 u2 u3) y2 i i)) (kW (f_X1_copyCut (mkC (kA y2) u1 u2 u3) y2 i i))
    refine ⟨fun s => ?_, fun s => ?_, fun k s hs => ?_⟩
    · rw [l_X1_copyFrom_10, h1]
      by_cases q : i + 1 ≤ s ∧ s < i + 1 + d
      · rw [if_pos q, if_pos (by omega)]
      · rw [if_neg q]
        show upd u1 i (kC y2 i) s = _
        by_cases e : s = i
        · rw [e, upd_at, if_pos (by omega)]
        · rw [upd_ne _ _ e, if_neg (by omega)]
    · rw [l_X1_copyFrom_10, h2]
      by_cases q : i + 1 ≤ s ∧ s < i + 1 + d
      · rw [if_pos q, if_pos (by omega)]
      · rw [if_neg q]
        show upd u2 i (kS y2 i) s = _
        by_cases e : s = i
        · rw [e, upd_at, if_pos (by omega)]
        · rw [upd_ne _ _ e, if_neg (by omega)]
    · rw [l_X1_copyFrom_10, h3 k s hs]
      by_cases q : i + 1 ≤ k ∧ k < i + 1 + d
      · rw [if_pos q, if_pos (by omega)]
      · rw [if_neg q]
        show l_X1_copyCut_27 (mkC (kA y2) u1 u2 u3) y2 i i 7 0 u3 k s = _
        rw [cc_27]
        by_cases e : k = i
        · rw [if_pos (by omega), if_pos (by omega), e]
        · rw [if_neg (by omega), if_neg (by omega)]
theorem RelK.copy {nn mm kk : Nat} {y y2 : CuC} {r : Nat → Int32} (h : RelK nn mm kk y2 r) (hn : nn ≤ 7) (hm : mm ≤ 8) : RelK nn mm kk (f_X1_copyFrom y y2) r := by
  obtain ⟨h1, h2, h3⟩ := cf_10 (y := y) (y2 := y2) (kA y2) 0 (kC y) (kS y) (kW y)
  have hA := h.2.1
  refine h.cl hm rfl (fun k hk => ?_) (fun k hk => ?_) (fun k s hk hs => ?_)
  · exact (h1 k).trans (if_pos (by omega))
  · exact (h2 k).trans (if_pos (by omega))
  · exact (h3 k s (by omega)).trans (if_pos (by omega))
theorem RelS.copy {nn mm kk : Nat} {so so2 : SoC} {x x2 : PlC} {y y2 : CuC} {r : Nat → Int32} (h : RelS nn mm kk so2 x2 y2 r) : RelS nn mm kk (f_X4_copyFrom so x y so2 x2 y2).1 (f_X4_copyFrom so x y so2 x2 y2).2.1 (f_X4_copyFrom so x y so2 x2 y2).2.2 r :=
  ⟨h.1.copy, h.2.1.copy h.1.1.1 h.1.1.2.1, h.2.2.cg rfl rfl rfl rfl (fun _ _ _ _ => rfl)⟩
/-! the history -/
def RelH (ho : HoC) (sg : Nat → Nat) (hs : Nat → StC) (st : Nat) (past : Nat → Int32) : Prop := hA ho = st ∧ st ≤ 4 ∧ (∀ j, j < 4 → sg j < 4) ∧ (∀ i j, i < 4 → j < 4 → sg i = sg j → i = j) ∧ ∀ j, j < st → ∃ nn mm kk, RelS nn mm kk (soOf (hs (sg j))) (sP (hs (sg j))) (sK (hs (sg j))) (fun i => past (444 * j + i))
theorem rc_51 {y : MoC} : ∀ (d i : Nat) (v : Nat → Int32) (j : Nat), l_X6_record_51 y d i v j = if 444 * oS y + i ≤ j ∧ j < 444 * oS y + i + d then oB y (j - 444 * oS y) else v j := by
  intro d
  induction d with
  | zero => intro i v j; rw [l_X6_record_51, if_neg (by omega)]
  | succ d ih =>
    intro i v j
    rw [l_X6_record_51, ih]
    by_cases q : 444 * oS y + (i + 1) ≤ j ∧ j < 444 * oS y + (i + 1) + d
    · rw [if_pos q, if_pos (by omega)]
    · rw [if_neg q]
      by_cases e : j = 444 * oS y + i
      · rw [e, upd_at, if_pos (by omega)]; exact congrArg _ (by omega)
      · rw [upd_ne _ _ e, if_neg (by omega)]
theorem rc_51a {y : MoC} : ∀ (d i : Nat) (v : Nat → Int32) (j : Nat), l_X6_record_51a y d i v j = if 444 * (oS y - 1) + i ≤ j ∧ j < 444 * (oS y - 1) + i + d then oB y (j - 444 * (oS y - 1)) else v j := by
  intro d
  induction d with
  | zero => intro i v j; rw [l_X6_record_51a, if_neg (by omega)]
  | succ d ih =>
    intro i v j
    rw [l_X6_record_51a, ih]
    by_cases q : 444 * (oS y - 1) + (i + 1) ≤ j ∧ j < 444 * (oS y - 1) + (i + 1) + d
    · rw [if_pos q, if_pos (by omega)]
    · rw [if_neg q]
      by_cases e : j = 444 * (oS y - 1) + i
      · rw [e, upd_at, if_pos (by omega)]; exact congrArg _ (by omega)
      · rw [upd_ne _ _ e, if_neg (by omega)]
theorem rc_10 {y : MoC} : ∀ (d i : Nat) (v : Nat → Int32) (j : Nat), l_X6_record_10 y d i v j = if i ≤ j ∧ j < i + d then v (444 + j) else v j := by
  intro d
  induction d with
  | zero => intro i v j; rw [l_X6_record_10, if_neg (by omega)]
  | succ d ih =>
    intro i v j
    rw [l_X6_record_10, ih]
    by_cases q : i + 1 ≤ j ∧ j < i + 1 + d
    · rw [if_pos q, if_pos (by omega), upd_ne _ _ (by omega)]
    · rw [if_neg q]
      by_cases e : j = i
      · rw [e, upd_at, if_pos (by omega)]
      · rw [upd_ne _ _ e, if_neg (by omega)]
theorem rm_2 {y : MoC} : ∀ (d i : Nat) (v : Nat → Int32) (j : Nat), l_X6_remember_2 y d i v j = if i ≤ j ∧ j < i + d then oR y j else v j := by
  intro d
  induction d with
  | zero => intro i v j; rw [l_X6_remember_2, if_neg (by omega)]
  | succ d ih =>
    intro i v j
    rw [l_X6_remember_2, ih]
    by_cases q : i + 1 ≤ j ∧ j < i + 1 + d
    · rw [if_pos q, if_pos (by omega)]
    · rw [if_neg q]
      by_cases e : j = i
      · rw [e, upd_at, if_pos (by omega)]
      · rw [upd_ne _ _ e, if_neg (by omega)]
theorem mv_at {ho : HoC} {sg : Nat → Nat} {hs : Nat → StC} : f_X2_moveOldestToEnd ho sg hs 0 = sg 1 ∧ f_X2_moveOldestToEnd ho sg hs 1 = sg 2 ∧ f_X2_moveOldestToEnd ho sg hs 2 = sg 3 ∧ f_X2_moveOldestToEnd ho sg hs 3 = sg 0 := ⟨rfl, rfl, rfl, rfl⟩
set_option maxRecDepth 100000 in
theorem RelH.record {ho : HoC} {sg : Nat → Nat} {hs : Nat → StC} {y : MoC} {nn mm kk : Nat} {z : SoC} {x : PlC} {u : CuC} (h : RelH ho sg hs (oS y) (oP y)) (hr : RelS nn mm kk z x u (oB y)) : RelH (f_X2_record ho sg hs z x u).1 (f_X2_record ho sg hs z x u).2.1 (f_X2_record ho sg hs z x u).2.2 (oS (f_X6_record y)) (oP (f_X6_record y)) := by
  obtain ⟨h1, h2, h3, h4, h5⟩ := h
  unfold f_X2_record f_X6_record
  by_cases c : oS y = 4
  · rw [if_neg (by omega), if_pos c]
    obtain ⟨m0, m1, m2, m3⟩ := mv_at (ho := ho) (sg := sg) (hs := hs)
    have mlt : ∀ j, j < 4 → f_X2_moveOldestToEnd ho sg hs j < 4 := fun j hj => moved_lt h3 hj
    have minj : ∀ i j, i < 4 → j < 4 → f_X2_moveOldestToEnd ho sg hs i = f_X2_moveOldestToEnd ho sg hs j → i = j := by
      intro i j hi hj e
      have g : ∀ k, k < 4 → f_X2_moveOldestToEnd ho sg hs k = sg (if k = 3 then 0 else k + 1) := by
        intro k hk
        rcases (show k = 0 ∨ k = 1 ∨ k = 2 ∨ k = 3 by omega) with rfl | rfl | rfl | rfl
        · exact m0
        · exact m1
        · exact m2
        · exact m3
      rw [g i hi, g j hj] at e
      have := h4 _ _ (by split <;> omega) (by split <;> omega) e
      split at this <;> split at this <;> omega
    refine ⟨by show 4 = oS y - 1 + 1; omega, by show oS y - 1 + 1 ≤ 4; omega, mlt, minj, fun j hj => ?_⟩
    have hj4 : j < 4 := by have : j < oS y - 1 + 1 := hj; omega
    by_cases e : j = 3
    · subst e
      refine ⟨nn, mm, kk, ?_⟩
      show RelS nn mm kk (soOf (va_up hs (f_X2_moveOldestToEnd ho sg hs 3) _ (f_X2_moveOldestToEnd ho sg hs 3))) (sP (va_up hs (f_X2_moveOldestToEnd ho sg hs 3) _ (f_X2_moveOldestToEnd ho sg hs 3))) (sK (va_up hs (f_X2_moveOldestToEnd ho sg hs 3) _ (f_X2_moveOldestToEnd ho sg hs 3))) (fun i => l_X6_record_51a y 444 0 (l_X6_record_10 y 1332 0 (oP y)) (444 * 3 + i))
      rw [va_up_self]
      refine (hr.copy (so := soOf (hs (f_X2_moveOldestToEnd ho sg hs 3)))).cg (fun i hi => ?_)
      show l_X6_record_51a y 444 0 (l_X6_record_10 y 1332 0 (oP y)) (444 * 3 + i) = oB y i
      rw [rc_51a, if_pos (by omega)]
      exact congrArg _ (by omega)
    · obtain ⟨n1, m1', k1, hs1⟩ := h5 (j + 1) (by omega)
      refine ⟨n1, m1', k1, ?_⟩
      have hne : f_X2_moveOldestToEnd ho sg hs j ≠ f_X2_moveOldestToEnd ho sg hs 3 := fun q => e (minj j 3 hj4 (by decide) q)
      have hsg : f_X2_moveOldestToEnd ho sg hs j = sg (j + 1) := by
        rcases (show j = 0 ∨ j = 1 ∨ j = 2 by omega) with rfl | rfl | rfl
        · exact m0
        · exact m1
        · exact m2
      show RelS n1 m1' k1 (soOf (va_up hs (f_X2_moveOldestToEnd ho sg hs 3) _ (f_X2_moveOldestToEnd ho sg hs j))) (sP (va_up hs (f_X2_moveOldestToEnd ho sg hs 3) _ (f_X2_moveOldestToEnd ho sg hs j))) (sK (va_up hs (f_X2_moveOldestToEnd ho sg hs 3) _ (f_X2_moveOldestToEnd ho sg hs j))) (fun i => l_X6_record_51a y 444 0 (l_X6_record_10 y 1332 0 (oP y)) (444 * j + i))
      rw [va_up_ne _ _ hne, hsg]
      refine hs1.cg (fun i hi => ?_)
      show l_X6_record_51a y 444 0 (l_X6_record_10 y 1332 0 (oP y)) (444 * j + i) = oP y (444 * (j + 1) + i)
      rw [rc_51a, if_neg (by omega), rc_10, if_pos (by omega)]
      exact congrArg _ (by omega)
  · rw [if_pos (by omega), if_neg c]
    refine ⟨by show hA ho + 1 = oS y + 1; omega, by show oS y + 1 ≤ 4; omega, h3, h4, fun j hj => ?_⟩
    have hj4 : j < oS y + 1 := hj
    by_cases e : j = oS y
    · subst e
      refine ⟨nn, mm, kk, ?_⟩
      show RelS nn mm kk (soOf (va_up hs (sg (hA ho)) _ (sg (oS y)))) (sP (va_up hs (sg (hA ho)) _ (sg (oS y)))) (sK (va_up hs (sg (hA ho)) _ (sg (oS y)))) (fun i => l_X6_record_51 y 444 0 (oP y) (444 * oS y + i))
      rw [h1, va_up_self]
      refine (hr.copy (so := soOf (hs (sg (oS y))))).cg (fun i hi => ?_)
      show l_X6_record_51 y 444 0 (oP y) (444 * oS y + i) = oB y i
      rw [rc_51, if_pos (by omega)]
      exact congrArg _ (by omega)
    · obtain ⟨n1, m1', k1, hs1⟩ := h5 j (by omega)
      refine ⟨n1, m1', k1, ?_⟩
      have hne : sg j ≠ sg (hA ho) := fun q => e (by have := h4 j (hA ho) (by omega) (by omega) q; omega)
      show RelS n1 m1' k1 (soOf (va_up hs (sg (hA ho)) _ (sg j))) (sP (va_up hs (sg (hA ho)) _ (sg j))) (sK (va_up hs (sg (hA ho)) _ (sg j))) (fun i => l_X6_record_51 y 444 0 (oP y) (444 * j + i))
      rw [va_up_ne _ _ hne]
      refine hs1.cg (fun i hi => ?_)
      show l_X6_record_51 y 444 0 (oP y) (444 * j + i) = oP y (444 * j + i)
      rw [rc_51, if_neg (by omega)]
set_option maxRecDepth 100000 in
theorem RelH.begin {ho : HoC} {sg : Nat → Nat} {hs : Nat → StC} {y : MoC} {nn mm kk : Nat} {z : SoC} {x : PlC} {u : CuC} (h : RelH ho sg hs (oS y) (oP y)) (hr : RelS nn mm kk z x u (oR y)) : RelH (f_X2_record ho sg hs z x u).1 (f_X2_record ho sg hs z x u).2.1 (f_X2_record ho sg hs z x u).2.2 (oS (f_X6_begin y)) (oP (f_X6_begin y)) :=
  RelH.record (y := mkM (oR y) (oP y) (oA y) (oB (f_X6_remember y)) (oS y) (oI y) (oX y) (oL y) (oT y) (oN y)) h (hr.cg (fun j hj => (rm_2 444 0 (oB y) j).trans (if_pos (by omega))))
