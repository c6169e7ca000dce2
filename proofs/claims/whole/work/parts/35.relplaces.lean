/-! ===== the calls that change the places ===== -/
def W7 (a : Int32 × SoC × PlC × CuC × HoC × (Nat → Nat) × (Nat → StC)) (b : Int32 × MoC) : Prop := a.1 = b.1 ∧ (∃ n m k, RelS n m k a.2.1 a.2.2.1 a.2.2.2.1 (oR b.2)) ∧ RelH a.2.2.2.2.1 a.2.2.2.2.2.1 a.2.2.2.2.2.2 (oS b.2) (oP b.2)
theorem da_18 {y : MoC} : ∀ (d i : Nat) (v : Nat → Int32) (j : Nat), l_X6_dropAll_18 y d i v j = if i ≤ j ∧ j < i + d then nI 0 else v j := by
  intro d
  induction d with
  | zero => intro i v j; rw [l_X6_dropAll_18, if_neg (by omega)]
  | succ d ih =>
    intro i v j
    rw [l_X6_dropAll_18, ih]
    by_cases q : i + 1 ≤ j ∧ j < i + 1 + d
    · rw [if_pos q, if_pos (by omega)]
    · rw [if_neg q]
      by_cases e : j = i
      · rw [e, upd_at, if_pos (by omega)]
      · rw [upd_ne _ _ e, if_neg (by omega)]
theorem da_at {y : MoC} {j : Nat} (hj : j < 84) (h3 : j ≠ 3) (h4 : j ≠ 4) : oR (f_X6_dropAll y) j = oR y j := by
  unfold f_X6_dropAll
  rw [oR_mk]
  rw [da_18, if_neg (by omega), upd_ne _ _ h4, upd_ne _ _ h3]
theorem da_3 {y : MoC} : oR (f_X6_dropAll y) 3 = nI 0 := by
  unfold f_X6_dropAll
  rw [oR_mk]
  rw [da_18, if_neg (by omega), upd_ne _ _ (by decide), upd_at]
theorem da_4 {y : MoC} : oR (f_X6_dropAll y) 4 = (-5) := by
  unfold f_X6_dropAll
  rw [oR_mk]
  rw [da_18, if_neg (by omega), upd_at]
theorem RelS.cleared {nn mm : Nat} {z : SoC} {x : PlC} {u : CuC} {y : MoC} (h : RelP nn mm x (oR y)) (h5 : uT z = oR y 5) : RelS nn mm 0 (mkO (-1) (uT z)) x (mkC 0 (kC u) (kS u) (kW u)) (oR (f_X6_dropAll y)) :=
  ⟨h.cg (fun j hj h3 h4 _ => da_at hj h3 h4), ⟨by decide, rfl, da_3, fun k hk => absurd hk (Nat.not_lt_zero k)⟩, ⟨h5.trans (da_at (by decide) (by decide) (by decide)).symm, Or.inl ⟨rfl, da_4⟩⟩⟩
section RelF
variable {nn mm kk : Nat} {z : SoC} {x : PlC} {u : CuC} {y : MoC} {w : ZoC} {ho : HoC} {sg : Nat → Nat} {hs : Nat → StC}
theorem W7.same (h : RelS nn mm kk z x u (oR y)) (hh : RelH ho sg hs (oS y) (oP y)) (v : Int32) : W7 (v, z, x, u, ho, sg, hs) (v, y) := ⟨rfl, ⟨nn, mm, kk, h⟩, hh⟩
theorem as_30 {price : Int32} : ∀ (d i : Nat) (v : Nat → Nat → Int32) (s c : Nat), l_X3_appendSite_30 x price d i v s c = if s = pN x ∧ i ≤ c ∧ c < i + d then nI 100 else v s c := by
  intro d
  induction d with
  | zero => intro i v s c; rw [l_X3_appendSite_30, if_neg (by omega)]
  | succ d ih =>
    intro i v s c
    rw [l_X3_appendSite_30, ih]
    by_cases q : s = pN x ∧ i + 1 ≤ c ∧ c < i + 1 + d
    · rw [if_pos q, if_pos (by omega)]
    · rw [if_neg q]
      by_cases e : s = pN x
      · rw [e, va_up_self]
        by_cases e2 : c = i
        · rw [e2, upd_at, if_pos (by omega)]
        · rw [upd_ne _ _ e2, if_neg (by omega)]
      · rw [va_up_ne _ _ e, if_neg (by omega)]
theorem ac_23 {demand : Int32} : ∀ (d i : Nat) (v : Nat → Nat → Int32) (s c : Nat), l_X3_appendCustomer_23 x demand d i v s c = if c = pM x ∧ i ≤ s ∧ s < i + d then nI 100 else v s c := by
  intro d
  induction d with
  | zero => intro i v s c; rw [l_X3_appendCustomer_23, if_neg (by omega)]
  | succ d ih =>
    intro i v s c
    rw [l_X3_appendCustomer_23, ih]
    by_cases q : c = pM x ∧ i + 1 ≤ s ∧ s < i + 1 + d
    · rw [if_pos q, if_pos (by omega)]
    · rw [if_neg q]
      by_cases e : s = i
      · rw [e, va_up_self]
        by_cases e2 : c = pM x
        · rw [e2, upd_at, if_pos (by omega)]
        · rw [upd_ne _ _ e2, if_neg (by omega)]
      · rw [va_up_ne _ _ e, if_neg (by omega)]
set_option maxRecDepth 100000 in
theorem w_addSite (h : RelS nn mm kk z x u (oR y)) (hh : RelH ho sg hs (oS y) (oP y)) (price : Int32) : W7 (f_X5_addSite w z x u ho sg hs price) (f_X6_addSite y nn mm kk price) := by
  have hp := h.1
  unfold f_X5_addSite f_X6_addSite
  rw [show f_X5_isSitePrice price = f_X6_in price (nI 0) (nI 999) from rfl, hp.1.2.2.1]
  by_cases c1 : f_X6_in price (nI 0) (nI 999) = true
  · rw [if_pos c1, if_pos c1]
    by_cases c2 : nn = 7
    · rw [if_neg (by omega), if_pos c2]; exact W7.same h hh _
    · have hn7 : nn < 7 := by have := hp.1.1; omega
      rw [if_pos hn7, if_neg c2]
      have ea : f_X3_appendSite x price = (nI (pN x), mkP (pN x + 1) (pM x) (pO x) (upd (pP x) (pN x) price) (pD x) (l_X3_appendSite_30 x price (pM x) 0 (pR x)) (upd (pE x) (pN x) (nI 0))) := if_pos (by rw [hp.1.2.2.1]; exact hn7)
      rw [ea]
      refine ⟨by show nI (pN x) = nI nn; rw [hp.1.2.2.1], ⟨nn + 1, mm, 0, ?_⟩, RelH.begin hh h⟩
      refine RelS.cleared (y := mkM (upd (upd (oR y) (6 + nn) price) 0 (nI (nn + 1))) (oP (f_X6_begin y)) (oA y) (oB (f_X6_begin y)) (oS (f_X6_begin y)) (oI y) (oX y) (oL y) (oT y) (oN y)) ?_ ?_
      · obtain ⟨⟨a1, a2, a3, a4⟩, ⟨b1, b2, b3⟩, d1, d2, d3, d4, d5, d6⟩ := hp
        rw [oR_mk]
        have r6 : ∀ j, j ≠ 0 → j ≠ 6 + nn → upd (upd (oR y) (6 + nn) price) 0 (nI (nn + 1)) j = oR y j := fun j q1 q2 => (upd_ne _ _ q1).trans (upd_ne _ _ q2)
        refine ⟨⟨hn7, a2, by show pN x + 1 = nn + 1; rw [a3], a4⟩, ⟨upd_at _ _ _, (r6 1 (by decide) (by omega)).trans b2, b3.trans (r6 2 (by decide) (by omega)).symm⟩, ?_, ?_, ?_, ?_, ?_, ?_⟩
        · intro s hs
          show upd (pP x) (pN x) price s = _
          rw [a3]
          by_cases e : s = nn
          · rw [e, upd_at, upd_ne _ _ (by omega), upd_at]
          · rw [upd_ne _ _ e, r6 _ (by omega) (by omega)]; exact d1 s (by omega)
        · intro c hc; rw [r6 _ (by omega) (by omega)]; exact d2 c hc
        · intro s c hs hc
          show l_X3_appendSite_30 x price (pM x) 0 (pR x) s c = _ ∧ _
          rw [as_30, r6 _ (by omega) (by omega), a3, a4]
          by_cases e : s = nn
          · rw [if_pos (by omega), d4 s c (by omega) (by omega) (by omega)]
            exact ⟨rfl, ⟨by decide, by decide⟩⟩
          · rw [if_neg (by omega)]; exact d3 s c (by omega) hc
        · intro s c hs hc q
          rw [r6 _ (by omega) (by omega)]; exact d4 s c hs hc (by omega)
        · intro s hs
          show upd (pE x) (pN x) (nI 0) s = _
          rw [a3, r6 _ (by omega) (by omega)]
          by_cases e : s = nn
          · rw [e, upd_at]
            refine b_ext (fun i hi => ?_)
            rw [show bt (nI 0) i = false from b_0 i]
            cases e1 : bt (oR y (77 + nn)) i with
            | false => rfl
            | true => exact absurd (d6 nn i hn7 hi e1).1 (by omega)
          · rw [upd_ne _ _ e]; exact d5 s (by omega)
        · intro s j hs hj
          rw [r6 _ (by omega) (by omega)]
          intro hb
          obtain ⟨q1, q2, q3, q4⟩ := d6 s j hs hj hb
          rw [r6 _ (by omega) (by omega)]
          exact ⟨by omega, by omega, q3, q4⟩
      · rw [oR_mk, upd_ne _ _ (by decide), upd_ne _ _ (by omega)]; exact h.2.2.1
  · rw [if_neg c1, if_neg c1]; exact W7.same h hh _
set_option maxRecDepth 100000 in
theorem w_addCustomer (h : RelS nn mm kk z x u (oR y)) (hh : RelH ho sg hs (oS y) (oP y)) (demand : Int32) : W7 (f_X5_addCustomer w z x u ho sg hs demand) (f_X6_addCustomer y nn mm kk demand) := by
  have hp := h.1
  unfold f_X5_addCustomer f_X6_addCustomer
  rw [show f_X5_isDemand demand = f_X6_in demand (nI 1) (nI 20) from rfl, hp.1.2.2.2]
  by_cases c1 : f_X6_in demand (nI 1) (nI 20) = true
  · rw [if_pos c1, if_pos c1]
    by_cases c2 : mm = 8
    · rw [if_neg (by omega), if_pos c2]; exact W7.same h hh _
    · have hn8 : mm < 8 := by have := hp.1.2.1; omega
      rw [if_pos hn8, if_neg c2]
      have ea : f_X3_appendCustomer x demand = (nI (pM x), mkP (pN x) (pM x + 1) (pO x) (pP x) (upd (pD x) (pM x) demand) (l_X3_appendCustomer_23 x demand (pN x) 0 (pR x)) (pE x)) := if_pos (by rw [hp.1.2.2.2]; exact hn8)
      rw [ea]
      have hdem : rB demand 1 20 := by
        unfold f_X6_in at c1
        by_cases q1 : demand < nI 1
        · rw [if_pos q1] at c1; exact absurd c1 (by decide)
        · rw [if_neg q1] at c1
          by_cases q2 : nI 20 < demand
          · rw [if_pos q2] at c1; exact absurd c1 (by decide)
          · have t1 : (nI 1).toInt = 1 := by decide
            have t20 : (nI 20).toInt = 20 := by decide
            rw [i_lt, t1] at q1
            rw [i_lt, t20] at q2
            exact ⟨by omega, by omega⟩
      refine ⟨by show nI (pM x) = nI mm; rw [hp.1.2.2.2], ⟨nn, mm + 1, 0, ?_⟩, RelH.begin hh h⟩
      refine RelS.cleared (y := mkM (upd (upd (oR y) (13 + mm) demand) 1 (nI (mm + 1))) (oP (f_X6_begin y)) (oA y) (oB (f_X6_begin y)) (oS (f_X6_begin y)) (oI y) (oX y) (oL y) (oT y) (oN y)) ?_ ?_
      · obtain ⟨⟨a1, a2, a3, a4⟩, ⟨b1, b2, b3⟩, d1, d2, d3, d4, d5, d6⟩ := hp
        rw [oR_mk]
        have r6 : ∀ j, j ≠ 1 → j ≠ 13 + mm → upd (upd (oR y) (13 + mm) demand) 1 (nI (mm + 1)) j = oR y j := fun j q1 q2 => (upd_ne _ _ q1).trans (upd_ne _ _ q2)
        refine ⟨⟨a1, hn8, a3, by show pM x + 1 = mm + 1; rw [a4]⟩, ⟨(r6 0 (by decide) (by omega)).trans b1, upd_at _ _ _, b3.trans (r6 2 (by decide) (by omega)).symm⟩, ?_, ?_, ?_, ?_, ?_, ?_⟩
        · intro s hs
          rw [r6 _ (by omega) (by omega)]; exact d1 s hs
        · intro c hc
          show upd (pD x) (pM x) demand c = _ ∧ _
          rw [a4]
          by_cases e : c = mm
          · rw [e, upd_at, upd_ne _ _ (by omega), upd_at]; exact ⟨rfl, hdem⟩
          · rw [upd_ne _ _ e, r6 _ (by omega) (by omega)]; exact d2 c (by omega)
        · intro s c hs hc
          show l_X3_appendCustomer_23 x demand (pN x) 0 (pR x) s c = _ ∧ _
          rw [ac_23, r6 _ (by omega) (by omega), a3, a4]
          by_cases e : c = mm
          · rw [if_pos (by omega), d4 s c (by omega) (by omega) (by omega)]
            exact ⟨rfl, ⟨by decide, by decide⟩⟩
          · rw [if_neg (by omega)]; exact d3 s c hs (by omega)
        · intro s c hs hc q
          rw [r6 _ (by omega) (by omega)]; exact d4 s c hs hc (by omega)
        · intro s hs
          rw [r6 _ (by omega) (by omega)]
          exact d5 s hs
        · intro s j hs hj
          rw [r6 _ (by omega) (by omega)]
          intro hb
          obtain ⟨q1, q2, q3, q4⟩ := d6 s j hs hj hb
          rw [r6 _ (by omega) (by omega)]
          exact ⟨q1, q2, q3, q4⟩
      · rw [oR_mk, upd_ne _ _ (by decide), upd_ne _ _ (by omega)]; exact h.2.2.1
  · rw [if_neg c1, if_neg c1]; exact W7.same h hh _
set_option maxRecDepth 100000 in
theorem w_change (h : RelS nn mm kk z x u (oR y)) (hh : RelH ho sg hs (oS y) (oP y)) {x' : PlC} {q : Nat} {v : Int32} (hq : 6 ≤ q) (hx : RelP nn mm x' (upd (oR y) q v)) (ne : ¬ oR y q = v) : W7 (oR y q, mkO (uB (f_X4_forgetCuts z x u).1) (uT z), x', mkC (kA (f_X4_forgetCuts z x u).2) (kC u) (kS u) (kW u), (f_X2_record ho sg hs z x u).1, (f_X2_record ho sg hs z x u).2.1, (f_X2_record ho sg hs z x u).2.2) ((f_X6_change y q v).1, mkM (oR (f_X6_change y q v).2) (oP (f_X6_change y q v).2) (oA y) (oB (f_X6_change y q v).2) (oS (f_X6_change y q v).2) (oI y) (oX y) (oL y) (oT y) (oN y)) := by
  unfold f_X6_change
  rw [if_neg ne]
  refine ⟨rfl, ⟨nn, mm, 0, ?_⟩, RelH.begin hh h⟩
  refine RelS.cleared (y := mkM (upd (oR y) q v) (oP (f_X6_begin y)) (oA y) (oB (f_X6_begin y)) (oS (f_X6_begin y)) (oI y) (oX y) (oL y) (oT y) (oN y)) hx ?_
  rw [oR_mk, upd_ne _ _ (by omega)]; exact h.2.2.1
theorem w_nochange (h : RelS nn mm kk z x u (oR y)) (hh : RelH ho sg hs (oS y) (oP y)) {q : Nat} {v : Int32} (ne : oR y q = v) : W7 ((-5), z, x, u, ho, sg, hs) ((f_X6_change y q v).1, mkM (oR (f_X6_change y q v).2) (oP (f_X6_change y q v).2) (oA y) (oB (f_X6_change y q v).2) (oS (f_X6_change y q v).2) (oI y) (oX y) (oL y) (oT y) (oN y)) := by
  unfold f_X6_change
  rw [if_pos ne]
  exact ⟨rfl, ⟨nn, mm, kk, h⟩, hh⟩
theorem w_setPrice (h : RelS nn mm kk z x u (oR y)) (hh : RelH ho sg hs (oS y) (oP y)) (site price : Int32) : W7 (f_X5_setPrice w z x u ho sg hs site price) (f_X6_setPrice y nn mm kk site price) := by
  have hp := h.1
  have hn := hp.1.1
  unfold f_X5_setPrice f_X6_setPrice
  rw [show f_X3_isSite x site = cl (pN x) site from rfl, show f_X6_noSite y nn mm kk site = cm nn site from rfl, hp.1.2.2.1, show f_X5_isSitePrice price = f_X6_in price (nI 0) (nI 999) from rfl]
  rcases cl_in (show nn < 2 ^ 31 by omega) site with ⟨s, hs, rfl, e3, e4⟩ | ⟨e3, e4⟩
  · rw [e3, e4, if_pos tt, if_neg ff, tn_nI (show s < 2 ^ 31 by omega)]
    by_cases c1 : f_X6_in price (nI 0) (nI 999) = true
    · rw [if_pos c1, if_pos c1, hp.2.2.1 s hs]
      by_cases c2 : oR y (6 + s) = price
      · rw [if_pos c2]; exact w_nochange h hh c2
      · rw [if_neg c2]
        refine w_change h hh (by omega) ?_ c2
        obtain ⟨⟨a1, a2, a3, a4⟩, ⟨b1, b2, b3⟩, d1, d2, d3, d4, d5, d6⟩ := hp
        have r6 : ∀ j, j ≠ 6 + s → upd (oR y) (6 + s) price j = oR y j := fun j q => upd_ne _ _ q
        refine ⟨⟨a1, a2, rfl, a4⟩, ⟨(r6 0 (by omega)).trans b1, (r6 1 (by omega)).trans b2, b3.trans (r6 2 (by omega)).symm⟩, ?_, ?_, ?_, ?_, ?_, ?_⟩
        · intro k hk
          show upd (pP x) s price k = _
          by_cases e : k = s
          · rw [e, upd_at, upd_at]
          · rw [upd_ne _ _ e, r6 _ (by omega)]; exact d1 k hk
        · intro c hc; rw [r6 _ (by omega)]; exact d2 c hc
        · intro k c hk hc; rw [r6 _ (by omega)]; exact d3 k c hk hc
        · intro k c hk hc q; rw [r6 _ (by omega)]; exact d4 k c hk hc q
        · intro k hk; rw [r6 _ (by omega)]; exact d5 k hk
        · intro k j hk hj; rw [r6 _ (by omega)]; intro hb
          obtain ⟨q1, q2, q3, q4⟩ := d6 k j hk hj hb
          rw [r6 _ (by omega)]; exact ⟨q1, q2, q3, q4⟩
    · rw [if_neg c1, if_neg c1]; exact W7.same h hh _
  · rw [e3, e4, if_neg ff, if_pos tt]; exact W7.same h hh _
theorem w_setDemand (h : RelS nn mm kk z x u (oR y)) (hh : RelH ho sg hs (oS y) (oP y)) (customer demand : Int32) : W7 (f_X5_setDemand w z x u ho sg hs customer demand) (f_X6_setDemand y nn mm kk customer demand) := by
  have hp := h.1
  have hm := hp.1.2.1
  unfold f_X5_setDemand f_X6_setDemand
  rw [show f_X3_isCustomer x customer = cl (pM x) customer from rfl, show f_X6_noCustomer y nn mm kk customer = cm mm customer from rfl, hp.1.2.2.2, show f_X5_isDemand demand = f_X6_in demand (nI 1) (nI 20) from rfl]
  rcases cl_in (show mm < 2 ^ 31 by omega) customer with ⟨s, hs, rfl, e3, e4⟩ | ⟨e3, e4⟩
  · rw [e3, e4, if_pos tt, if_neg ff, tn_nI (show s < 2 ^ 31 by omega)]
    by_cases c1 : f_X6_in demand (nI 1) (nI 20) = true
    · rw [if_pos c1, if_pos c1, (hp.2.2.2.1 s hs).1]
      by_cases c2 : oR y (13 + s) = demand
      · rw [if_pos c2]; exact w_nochange h hh c2
      · rw [if_neg c2]
        refine w_change h hh (by omega) ?_ c2
        have hdem : rB demand 1 20 := by
          unfold f_X6_in at c1
          by_cases q1 : demand < nI 1
          · rw [if_pos q1] at c1; exact absurd c1 (by decide)
          · rw [if_neg q1] at c1
            by_cases q2 : nI 20 < demand
            · rw [if_pos q2] at c1; exact absurd c1 (by decide)
            · have t1 : (nI 1).toInt = 1 := by decide
              have t20 : (nI 20).toInt = 20 := by decide
              rw [i_lt, t1] at q1
              rw [i_lt, t20] at q2
              exact ⟨by omega, by omega⟩
        obtain ⟨⟨a1, a2, a3, a4⟩, ⟨b1, b2, b3⟩, d1, d2, d3, d4, d5, d6⟩ := hp
        have r6 : ∀ j, j ≠ 13 + s → upd (oR y) (13 + s) demand j = oR y j := fun j q => upd_ne _ _ q
        refine ⟨⟨a1, a2, a3, rfl⟩, ⟨(r6 0 (by omega)).trans b1, (r6 1 (by omega)).trans b2, b3.trans (r6 2 (by omega)).symm⟩, ?_, ?_, ?_, ?_, ?_, ?_⟩
        · intro k hk; rw [r6 _ (by omega)]; exact d1 k hk
        · intro c hc
          show upd (pD x) s demand c = _ ∧ _
          by_cases e : c = s
          · rw [e, upd_at, upd_at]; exact ⟨rfl, hdem⟩
          · rw [upd_ne _ _ e, r6 _ (by omega)]; exact d2 c hc
        · intro k c hk hc; rw [r6 _ (by omega)]; exact d3 k c hk hc
        · intro k c hk hc q; rw [r6 _ (by omega)]; exact d4 k c hk hc q
        · intro k hk; rw [r6 _ (by omega)]; exact d5 k hk
        · intro k j hk hj; rw [r6 _ (by omega)]; intro hb
          obtain ⟨q1, q2, q3, q4⟩ := d6 k j hk hj hb
          rw [r6 _ (by omega)]; exact ⟨q1, q2, q3, q4⟩
    · rw [if_neg c1, if_neg c1]; exact W7.same h hh _
  · rw [e3, e4, if_neg ff, if_pos tt]; exact W7.same h hh _
theorem w_setRoute (h : RelS nn mm kk z x u (oR y)) (hh : RelH ho sg hs (oS y) (oP y)) (site customer price : Int32) : W7 (f_X5_setRoute w z x u ho sg hs site customer price) (f_X6_setRoute y nn mm kk site customer price) := by
  have hp := h.1
  have hn := hp.1.1
  have hm := hp.1.2.1
  unfold f_X5_setRoute f_X6_setRoute
  rw [show f_X3_isSite x site = cl (pN x) site from rfl, show f_X6_noSite y nn mm kk site = cm nn site from rfl, show f_X3_isCustomer x customer = cl (pM x) customer from rfl, show f_X6_noCustomer y nn mm kk customer = cm mm customer from rfl, hp.1.2.2.2, hp.1.2.2.1]
  rcases cl_in (show nn < 2 ^ 31 by omega) site with ⟨s, hs, rfl, e3, e4⟩ | ⟨e3, e4⟩
  · rw [e3, e4, if_pos tt, if_neg ff, tn_nI (show s < 2 ^ 31 by omega)]
    rcases cl_in (show mm < 2 ^ 31 by omega) customer with ⟨g, hg, rfl, e5, e6⟩ | ⟨e5, e6⟩
    · rw [e5, e6, if_pos tt, if_neg ff, tn_nI (show g < 2 ^ 31 by omega)]
      unfold f_X6_in
      by_cases c1 : price < 0
      · rw [if_pos c1, if_pos (show price < nI 0 from c1), if_neg ff]; exact W7.same h hh _
      · rw [if_neg c1, if_neg (show ¬ price < nI 0 from c1)]
        by_cases c3 : nI 100 < price
        · rw [if_pos c3, if_pos c3, if_neg ff]; exact W7.same h hh _
        · rw [if_neg c3, if_neg c3, if_pos tt, (hp.2.2.2.2.1 s g hs hg).1]
          by_cases c2 : oR y (21 + 8 * s + g) = price
          · rw [if_pos c2]; exact w_nochange h hh c2
          · rw [if_neg c2]
            refine w_change h hh (by omega) ?_ c2
            have hpr : rB price 0 100 := by
              have t0 : (0 : Int32).toInt = 0 := by decide
              rw [i_lt, t0] at c1
              rw [i_lt, t100] at c3
              exact ⟨by omega, by omega⟩
            obtain ⟨⟨a1, a2, a3, a4⟩, ⟨b1, b2, b3⟩, d1, d2, d3, d4, d5, d6⟩ := hp
            have r6 : ∀ j, j ≠ 21 + 8 * s + g → upd (oR y) (21 + 8 * s + g) price j = oR y j := fun j q => upd_ne _ _ q
            refine ⟨⟨a1, a2, rfl, rfl⟩, ⟨(r6 0 (by omega)).trans b1, (r6 1 (by omega)).trans b2, b3.trans (r6 2 (by omega)).symm⟩, ?_, ?_, ?_, ?_, ?_, ?_⟩
            · intro k hk; rw [r6 _ (by omega)]; exact d1 k hk
            · intro c hc; rw [r6 _ (by omega)]; exact d2 c hc
            · intro k c hk hc
              show va_up (pR x) s (upd (pR x s) g price) k c = _ ∧ _
              by_cases e : k = s
              · rw [e, va_up_self]
                by_cases e2 : c = g
                · rw [e2, upd_at, upd_at]; exact ⟨rfl, hpr⟩
                · rw [upd_ne _ _ e2, r6 _ (by omega)]; exact d3 s c hs hc
              · rw [va_up_ne _ _ e, r6 _ (by omega)]; exact d3 k c hk hc
            · intro k c hk hc q; rw [r6 _ (by omega)]; exact d4 k c hk hc q
            · intro k hk; rw [r6 _ (by omega)]; exact d5 k hk
            · intro k j hk hj; rw [r6 _ (by omega)]; intro hb
              obtain ⟨q1, q2, q3, q4⟩ := d6 k j hk hj hb
              rw [r6 _ (by omega)]; exact ⟨q1, q2, q3, q4⟩
    · rw [e5, e6, if_neg ff, if_pos tt]; exact W7.same h hh _
  · rw [e3, e4, if_neg ff, if_pos tt]; exact W7.same h hh _
set_option maxRecDepth 100000 in
theorem w_setMost (h : RelS nn mm kk z x u (oR y)) (hh : RelH ho sg hs (oS y) (oP y)) (sites : Int32) : W7 (f_X5_setMost w z x u ho sg hs sites) (f_X6_setMost y nn mm kk sites) := by
  have hp := h.1
  have hn := hp.1.1
  have hm := hp.1.2.1
  unfold f_X5_setMost f_X6_setMost f_X6_in
  by_cases c1 : sites < nI 1
  · rw [if_pos c1, if_pos c1, if_neg ff]; exact W7.same h hh _
  · rw [if_neg c1, if_neg c1]
    by_cases c3 : nI 7 < sites
    · rw [if_pos c3, if_pos c3, if_neg ff]; exact W7.same h hh _
    · rw [if_neg c3, if_neg c3, if_pos tt, hp.2.1.2.2]
      by_cases c2 : oR y 2 = sites
      · rw [if_pos c2, if_pos c2]; exact W7.same h hh _
      · rw [if_neg c2, if_neg c2]
        have r6 : ∀ j, j ≠ 2 → j ≠ 4 → upd (upd (oR y) 2 sites) 4 (-5) j = oR y j := fun j q1 q2 => (upd_ne _ _ q2).trans (upd_ne _ _ q1)
        refine ⟨rfl, ⟨nn, mm, kk, ?_, ?_, ?_⟩, RelH.begin hh h⟩
        · obtain ⟨⟨a1, a2, a3, a4⟩, ⟨b1, b2, b3⟩, d1, d2, d3, d4, d5, d6⟩ := hp
          show RelP nn mm _ (upd (upd (oR y) 2 sites) 4 (-5))
          refine ⟨⟨a1, a2, a3, a4⟩, ⟨(r6 0 (by omega) (by omega)).trans b1, (r6 1 (by omega) (by omega)).trans b2, ((upd_ne _ _ (show 2 ≠ 4 by decide)).trans (upd_at _ _ _)).symm⟩, ?_, ?_, ?_, ?_, ?_, ?_⟩
          · intro k hk; rw [r6 _ (by omega) (by omega)]; exact d1 k hk
          · intro c hc; rw [r6 _ (by omega) (by omega)]; exact d2 c hc
          · intro k c hk hc; rw [r6 _ (by omega) (by omega)]; exact d3 k c hk hc
          · intro k c hk hc q; rw [r6 _ (by omega) (by omega)]; exact d4 k c hk hc q
          · intro k hk; rw [r6 _ (by omega) (by omega)]; exact d5 k hk
          · intro k j hk hj; rw [r6 _ (by omega) (by omega)]; intro hb
            obtain ⟨q1, q2, q3, q4⟩ := d6 k j hk hj hb
            rw [r6 _ (by omega) (by omega)]; exact ⟨q1, q2, q3, q4⟩
        · exact h.2.1.cg hn hm (r6 3 (by decide) (by decide)) (fun i hi => r6 _ (by omega) (by omega)) (fun s i hs hi => r6 _ (by omega) (by omega)) (fun j hj _ => r6 _ (by omega) (by omega))
        · exact ⟨h.2.2.1.trans (r6 5 (by decide) (by decide)).symm, Or.inl ⟨rfl, (show upd (upd (oR y) 2 sites) 4 (-5) 4 = (-5) from upd_at _ _ _)⟩⟩
end RelF
