/-! ===== the class's contents beside the reference's row ===== -/
def rB (v : Int32) (a b : Int) : Prop := a ≤ v.toInt ∧ v.toInt ≤ b
def RelP (nn mm : Nat) (x : PlC) (r : Nat → Int32) : Prop := (nn ≤ 7 ∧ mm ≤ 8 ∧ pN x = nn ∧ pM x = mm) ∧ (r 0 = nI nn ∧ r 1 = nI mm ∧ pO x = r 2) ∧ (∀ s, s < nn → pP x s = r (6 + s)) ∧ (∀ c, c < mm → pD x c = r (13 + c) ∧ rB (r (13 + c)) 1 20) ∧ (∀ s c, s < nn → c < mm → pR x s c = r (21 + 8 * s + c) ∧ rB (r (21 + 8 * s + c)) 0 100) ∧ (∀ s c, s < 7 → c < 8 → ¬ (s < nn ∧ c < mm) → r (21 + 8 * s + c) = nI 100) ∧ (∀ s, s < nn → pE x s = r (77 + s)) ∧ (∀ s j, s < 7 → j < 32 → bt (r (77 + s)) j = true → s < nn ∧ j < nn ∧ j ≠ s ∧ bt (r (77 + j)) s = true)
theorem t100 : (nI 100).toInt = 100 := by decide
theorem i_lt {a b : Int32} : a < b ↔ a.toInt < b.toInt := Int32.lt_iff_toInt_lt
theorem tn_lt (v : Int32) : tn v < 2 ^ 31 := by
  have := Int32.toInt_lt v
  show v.toInt.toNat < 2 ^ 31
  omega
section RelA
variable {nn mm kk : Nat} {x : PlC} {y : MoC}
theorem rp_n7 (h : RelP nn mm x (oR y)) : nn ≤ 7 := h.1.1
theorem rp_m8 (h : RelP nn mm x (oR y)) : mm ≤ 8 := h.1.2.1
theorem rp_prices (h : RelP nn mm x (oR y)) (plan : Int32) : f_X3_sitePricesOf x plan = f_X6_prices y nn mm kk plan := by
  have hn := h.1.1
  have L : ∀ (d i : Nat) (a : Int32), i + d = nn → l_X3_sitePricesOf_4 x plan d i a = l_X6_prices_4 y nn mm kk plan d i a := by
    intro d
    induction d with
    | zero => intro i a _; rfl
    | succ d ih =>
      intro i a hid
      rw [l_X3_sitePricesOf_4, l_X6_prices_4, isIn_c (by omega), isIn_m (by omega), h.2.2.1 i (by omega), ih _ _ (by omega), ih _ _ (by omega)]
      by_cases c : bt plan i = true
      · rw [if_pos c, if_pos c]
      · rw [if_neg c, if_neg c]
        exact congrArg _ (Int32.add_zero a).symm
  unfold f_X3_sitePricesOf f_X6_prices
  rw [h.1.2.2.1]
  exact L nn 0 _ (by omega)
theorem ex_true {plan : Int32} : ∀ (d i : Nat), l_X6_excludes_4 y nn mm kk plan d i true = true := by
  intro d
  induction d with
  | zero => intro i; rfl
  | succ d ih => intro i; rw [l_X6_excludes_4, if_pos rfl]; exact ih (i + 1)
theorem rp_excl (h : RelP nn mm x (oR y)) (plan : Int32) : f_X3_hasExcludingSites x plan = f_X6_excludes y nn mm kk plan := by
  have hn := h.1.1
  have L : ∀ (d i : Nat), i + d = nn → l_X3_hasExcludingSites_2 x plan d i = l_X6_excludes_4 y nn mm kk plan d i false := by
    intro d
    induction d with
    | zero => intro i _; rfl
    | succ d ih =>
      intro i hid
      rw [l_X3_hasExcludingSites_2, l_X6_excludes_4, isIn_c (by omega), isIn_m (by omega), h.2.2.2.2.2.2.1 i (by omega), ih _ (by omega), if_neg (show ¬ (false = true) by decide), ex_true]
  unfold f_X3_hasExcludingSites f_X6_excludes
  rw [h.1.2.2.1]
  exact L nn 0 (by omega)
theorem bc_many : ∀ p, p < 128 → f_J6_bitCount_0f7a4 (nI p) = f_X6_many (nI p) := by decide +kernel
theorem pw7 {n : Nat} (h : n ≤ 7) : 2 ^ n ≤ 128 := Nat.pow_le_pow_right (show 0 < 2 by decide) h
theorem rp_allowed (h : RelP nn mm x (oR y)) {p : Nat} (hp : p < 2 ^ nn) : f_X3_isAllowed x (nI p) = f_X6_isAllowed y nn mm kk (nI p) := by
  have := pw7 h.1.1
  unfold f_X3_isAllowed f_X6_isAllowed
  rw [bc_many p (by omega), rp_excl (kk := kk) h, h.2.1.2.2]
def lsOk (y : MoC) (nn : Nat) (plan : Int32) (c i : Nat) (a m : Int32) : Prop := (a < 0 ∧ m = nI 100 ∧ ∀ k, k < i → bt plan k = true → ¬ oR y (21 + 8 * k + c) < nI 100) ∨ (a = nI (tn a) ∧ tn a < nn ∧ bt plan (tn a) = true ∧ m = oR y (21 + 8 * tn a + c) ∧ m < nI 100 ∧ (∀ k, k < i → bt plan k = true → ¬ oR y (21 + 8 * k + c) < m) ∧ (∀ k, k < tn a → bt plan k = true → m < oR y (21 + 8 * k + c)) ∧ tn a < i)
theorem ls_loop (h : RelP nn mm x (oR y)) {plan : Int32} {c : Nat} (hc : c < mm) : ∀ (d i : Nat) (a m : Int32), i + d = nn → lsOk y nn plan c i a m → lsOk y nn plan c nn (l_X6_server_6 y nn mm kk plan c d i a) (l_X3_leastRoutePrice_6 x plan c d i m) := by
  have hn := h.1.1
  intro d
  induction d with
  | zero =>
    intro i a m hid ho
    have hi : i = nn := by omega
    subst hi
    exact ho
  | succ d ih =>
    intro i a m hid ho
    have e1 := (h.2.2.2.2.1 i c (by omega) hc).1
    have hin := nI_inv (show i < nn by omega) (by omega)
    have hti : tn (nI i) = i := nI_clamp (by omega)
    rw [l_X6_server_6, l_X3_leastRoutePrice_6, isIn_c (by omega), isIn_m (by omega), e1]
    by_cases c1 : bt plan i = true
    · rw [if_pos c1, if_pos c1]
      by_cases c2 : oR y (21 + 8 * i + c) < nI 100
      · rw [if_pos c2]
        rcases ho with ⟨ha, hm, hall⟩ | ⟨ha, hlt, hbt, hm, hm1, hmin, hfst, hai⟩
        · rw [if_pos ha, hm, if_pos c2]
          refine ih (i + 1) _ _ (by omega) (Or.inr ⟨hin.1, hin.2, by rw [hti]; exact c1, by rw [hti], c2, ?_, ?_, by rw [hti]; omega⟩)
          · intro k hk hb
            by_cases e : k = i
            · rw [e, i_lt]; omega
            · have := hall k (by omega) hb
              rw [i_lt] at this c2 ⊢; omega
          · rw [hti]
            intro k hk hb
            have := hall k hk hb
            rw [i_lt] at this c2 ⊢; omega
        · have ha0 : ¬ a < 0 := by rw [ha]; exact nI_pos (by omega)
          rw [if_neg ha0, ← hm]
          by_cases c3 : oR y (21 + 8 * i + c) < m
          · rw [if_pos c3, if_pos c3]
            refine ih (i + 1) _ _ (by omega) (Or.inr ⟨hin.1, hin.2, by rw [hti]; exact c1, by rw [hti], c2, ?_, ?_, by rw [hti]; omega⟩)
            · intro k hk hb
              by_cases e : k = i
              · rw [e, i_lt]; omega
              · have := hmin k (by omega) hb
                rw [i_lt] at this c3 ⊢; omega
            · rw [hti]
              intro k hk hb
              have := hmin k hk hb
              rw [i_lt] at this c3 ⊢; omega
          · rw [if_neg c3, if_neg c3, ← ha]
            refine ih (i + 1) _ _ (by omega) (Or.inr ⟨ha, hlt, hbt, hm, hm1, ?_, hfst, by omega⟩)
            intro k hk hb
            by_cases e : k = i
            · rw [e]; exact c3
            · exact hmin k (by omega) hb
      · rw [if_neg c2]
        have c3 : ¬ oR y (21 + 8 * i + c) < m := by
          rcases ho with ⟨ha, hm, hall⟩ | ⟨ha, hlt, hbt, hm, hm1, hmin, hfst, hai⟩
          · rw [hm]; exact c2
          · rw [i_lt] at c2 hm1 ⊢; omega
        rw [if_neg c3]
        refine ih (i + 1) _ _ (by omega) ?_
        rcases ho with ⟨ha, hm, hall⟩ | ⟨ha, hlt, hbt, hm, hm1, hmin, hfst, hai⟩
        · refine Or.inl ⟨ha, hm, fun k hk hb => ?_⟩
          by_cases e : k = i
          · rw [e]; exact c2
          · exact hall k (by omega) hb
        · refine Or.inr ⟨ha, hlt, hbt, hm, hm1, fun k hk hb => ?_, hfst, by omega⟩
          by_cases e : k = i
          · rw [e]; exact c3
          · exact hmin k (by omega) hb
    · rw [if_neg c1, if_neg c1]
      refine ih (i + 1) _ _ (by omega) ?_
      rcases ho with ⟨ha, hm, hall⟩ | ⟨ha, hlt, hbt, hm, hm1, hmin, hfst, hai⟩
      · refine Or.inl ⟨ha, hm, fun k hk hb => ?_⟩
        by_cases e : k = i
        · rw [e] at hb; exact absurd hb c1
        · exact hall k (by omega) hb
      · refine Or.inr ⟨ha, hlt, hbt, hm, hm1, fun k hk hb => ?_, hfst, by omega⟩
        by_cases e : k = i
        · rw [e] at hb; exact absurd hb c1
        · exact hmin k (by omega) hb
theorem rp_least (h : RelP nn mm x (oR y)) {plan : Int32} {c : Nat} (hc : c < mm) : lsOk y nn plan c nn (f_X6_server y nn mm kk plan c) (f_X3_leastRoutePrice x plan c) := by
  unfold f_X6_server f_X3_leastRoutePrice
  rw [h.1.2.2.1]
  exact ls_loop h hc nn 0 _ _ (by omega) (Or.inl ⟨by decide, rfl, fun k hk => absurd hk (Nat.not_lt_zero _)⟩)
theorem rp_least_s (h : RelP nn mm x (oR y)) {plan : Int32} {c : Nat} (hc : c < mm) (hs : ¬ f_X6_server y nn mm kk plan c < 0) : f_X3_leastRoutePrice x plan c = oR y (21 + 8 * tn (f_X6_server y nn mm kk plan c) + c) := by
  rcases rp_least (kk := kk) (plan := plan) h hc with ⟨ha, -⟩ | ⟨-, -, -, hm, -⟩
  · exact absurd ha hs
  · exact hm
theorem rp_least_100 (h : RelP nn mm x (oR y)) {plan : Int32} {c : Nat} (hc : c < mm) : f_X3_leastRoutePrice x plan c = nI 100 ↔ (plan &&& f_X6_reachedFrom y nn mm kk c) = 0 := by
  rw [and_reached h.1.1, ← server_lt (mm := mm) (kk := kk) h.1.1]
  rcases rp_least (kk := kk) (plan := plan) h hc with ⟨ha, hm, -⟩ | ⟨ha, hlt, -, hm, hm1, -⟩
  · exact ⟨fun _ => ha, fun _ => hm⟩
  · have hn := h.1.1
    refine ⟨fun e => ?_, fun e => ?_⟩
    · rw [e, i_lt] at hm1; omega
    · rw [ha] at e; exact absurd e (nI_pos (by omega))
theorem rp_missed (h : RelP nn mm x (oR y)) (plan : Int32) : (f_X3_lowestMissedCustomer x plan = (-1) ∧ f_X6_missed y nn mm kk plan = (-5)) ∨ (∃ j, j < mm ∧ f_X3_lowestMissedCustomer x plan = nI j ∧ f_X6_missed y nn mm kk plan = nI j) := by
  have L : ∀ (d i : Nat), i + d = mm → (l_X3_lowestMissedCustomer_2 x plan d i = (-1) ∧ l_X6_missed_2 y nn mm kk plan d i = (-5)) ∨ (∃ j, j < mm ∧ l_X3_lowestMissedCustomer_2 x plan d i = nI j ∧ l_X6_missed_2 y nn mm kk plan d i = nI j) := by
    intro d
    induction d with
    | zero => intro i _; exact Or.inl ⟨rfl, rfl⟩
    | succ d ih =>
      intro i hid
      rw [l_X3_lowestMissedCustomer_2, l_X6_missed_2]
      by_cases c : (plan &&& f_X6_reachedFrom y nn mm kk i) = 0
      · rw [if_pos c, if_pos ((rp_least_100 h (by omega)).mpr c)]
        exact Or.inr ⟨i, by omega, rfl, rfl⟩
      · rw [if_neg c, if_neg (fun q => c ((rp_least_100 h (by omega)).mp q))]
        exact ih (i + 1) (by omega)
  unfold f_X3_lowestMissedCustomer f_X6_missed
  rw [h.1.2.2.2]
  exact L mm 0 (by omega)
theorem rp_low (h : RelP nn mm x (oR y)) (plan : Int32) : f_X3_lowestMissedCustomer x plan = (-1) ↔ f_X6_missed y nn mm kk plan < 0 := by
  have hm := h.1.2.1
  rcases rp_missed (kk := kk) h plan with ⟨a, b⟩ | ⟨j, hj, a, b⟩
  · rw [a, b]; exact ⟨fun _ => by decide, fun _ => rfl⟩
  · rw [a, b]
    refine ⟨fun e => ?_, fun e => absurd e (nI_pos (by omega))⟩
    have := nI_pos (show j < 2 ^ 31 by omega)
    rw [e] at this; exact absurd (by decide) this
theorem rp_reaches (h : RelP nn mm x (oR y)) (plan : Int32) : f_X3_reachesAll x plan = true ↔ f_X6_missed y nn mm kk plan < 0 := by
  unfold f_X3_reachesAll
  rw [← rp_low (kk := kk) h plan]
  by_cases c : f_X3_lowestMissedCustomer x plan = (-1)
  · rw [if_pos c]; exact ⟨fun _ => c, fun _ => rfl⟩
  · rw [if_neg c]; exact ⟨fun q => absurd q (by decide), fun q => absurd q c⟩
theorem rp_routes (h : RelP nn mm x (oR y)) {plan : Int32} (hs : ∀ c, c < mm → ¬ f_X6_server y nn mm kk plan c < 0) : f_X3_routeCostOf x plan = f_X6_routes y nn mm kk plan := by
  have L : ∀ (d i : Nat) (a : Int32), i + d = mm → l_X3_routeCostOf_4 x plan d i a = l_X6_routes_4 y nn mm kk plan d i a := by
    intro d
    induction d with
    | zero => intro i a _; rfl
    | succ d ih =>
      intro i a hid
      rw [l_X3_routeCostOf_4, l_X6_routes_4, (h.2.2.2.1 i (by omega)).1, rp_least_s h (by omega) (hs i (by omega))]
      exact ih _ _ (by omega)
  unfold f_X3_routeCostOf f_X6_routes
  rw [h.1.2.2.2]
  exact L mm 0 _ (by omega)
theorem rp_cost (h : RelP nn mm x (oR y)) {plan : Int32} (hs : ∀ c, c < mm → ¬ f_X6_server y nn mm kk plan c < 0) : f_X3_costOf x plan = f_X6_prices y nn mm kk plan + f_X6_routes y nn mm kk plan := by
  unfold f_X3_costOf
  rw [rp_prices (kk := kk) h, rp_routes h hs]
theorem rp_feas (h : RelP nn mm x (oR y)) {p : Nat} (hp : p < 2 ^ nn) : f_X3_isFeasible x (nI p) = f_X6_isFeasible y nn mm kk (nI p) := by
  unfold f_X3_isFeasible f_X6_isFeasible
  rw [rp_allowed (kk := kk) h hp]
  by_cases c : f_X6_missed y nn mm kk (nI p) < 0
  · rw [if_pos c, if_pos ((rp_reaches h _).mpr c)]
  · rw [if_neg c, if_neg (fun q => c ((rp_reaches h _).mp q))]
theorem rp_cheap (h : RelP nn mm x (oR y)) {plan : Int32} {c : Nat} (hc : c < mm) : (f_X3_cheapestSite x plan c = (-1) ∧ f_X6_server y nn mm kk plan c = (-5)) ∨ (f_X3_cheapestSite x plan c = f_X6_server y nn mm kk plan c ∧ ∃ j, j < nn ∧ f_X6_server y nn mm kk plan c = nI j) := by
  have hn := h.1.1
  have hasR : ∀ k, k < nn → (f_X3_hasRoute x k c = true ↔ oR y (21 + 8 * k + c) < nI 100) := by
    intro k hk
    obtain ⟨e1, hb⟩ := h.2.2.2.2.1 k c hk hc
    unfold f_X3_hasRoute
    rw [e1]
    have hb2 := hb.2
    by_cases q : oR y (21 + 8 * k + c) = nI 100
    · rw [if_pos q, q]; exact ⟨fun w => absurd w (by decide), fun w => absurd w (by rw [i_lt]; omega)⟩
    · rw [if_neg q]
      refine ⟨fun _ => ?_, fun _ => rfl⟩
      rw [i_lt, t100]
      have : (oR y (21 + 8 * k + c)).toInt ≠ 100 := fun w => q (Int32.toInt_inj.mp (w.trans t100.symm))
      omega
  have hns : f_X6_server y nn mm kk plan c < 0 → f_X6_server y nn mm kk plan c = (-5) := by
    have L : ∀ (d i : Nat) (a : Int32), i + d = nn → (a = (-5) ∨ ¬ a < 0) → (l_X6_server_6 y nn mm kk plan c d i a = (-5) ∨ ¬ l_X6_server_6 y nn mm kk plan c d i a < 0) := by
      intro d
      induction d with
      | zero => intro i a _ ha; exact ha
      | succ d ih =>
        intro i a hid ha
        have h2 : nI i = (-5) ∨ ¬ nI i < 0 := Or.inr (nI_pos (by omega))
        have h3 : ∀ v : Int32, nI (tn v) = (-5) ∨ ¬ nI (tn v) < 0 := fun v => Or.inr (nI_pos (tn_lt v))
        rw [l_X6_server_6]
        (repeat' split) <;> first | exact ih _ _ (by omega) h2 | exact ih _ _ (by omega) (h3 _) | exact ih _ _ (by omega) ha
    intro q
    rcases L nn 0 (-5) (by omega) (Or.inl rfl) with w | w
    · exact w
    · exact absurd q w
  have hl := rp_least (kk := kk) (plan := plan) h hc
  unfold f_X3_cheapestSite
  rw [h.1.2.2.1]
  rcases hl with ⟨ha, hm, hall⟩ | ⟨ha, hlt, hbt, hm, hm1, hmin, hfst, hai⟩
  · refine Or.inl ⟨?_, hns ha⟩
    have L : ∀ (d i : Nat), i + d = nn → l_X3_cheapestSite_10 x plan c d i = (-1) := by
      intro d
      induction d with
      | zero => intro i _; rfl
      | succ d ih =>
        intro i hid
        rw [l_X3_cheapestSite_10, isIn_c (by omega), ih (i + 1) (by omega)]
        by_cases q : bt plan i = true
        · rw [if_pos q, if_neg (fun w => hall i (by omega) q ((hasR i (by omega)).mp w))]
        · rw [if_neg q]
    exact L nn 0 (by omega)
  · refine Or.inr ⟨?_, _, hlt, ha⟩
    have L : ∀ (d i : Nat), i + d = nn → i ≤ tn (f_X6_server y nn mm kk plan c) → l_X3_cheapestSite_10 x plan c d i = f_X6_server y nn mm kk plan c := by
      intro d
      induction d with
      | zero => intro i hid hle; omega
      | succ d ih =>
        intro i hid hle
        rw [l_X3_cheapestSite_10, isIn_c (by omega), (h.2.2.2.2.1 i c (by omega) hc).1]
        by_cases e : i = tn (f_X6_server y nn mm kk plan c)
        · rw [if_pos (by rw [e]; exact hbt), if_pos ((hasR i (by omega)).mpr (by rw [e, ← hm]; exact hm1)), if_pos (by rw [hm, e]), e]
          exact ha.symm
        · rw [ih (i + 1) (by omega) (by omega)]
          by_cases q : bt plan i = true
          · have hlt2 := hfst i (by omega) q
            have hne : ¬ oR y (21 + 8 * i + c) = f_X3_leastRoutePrice x plan c := fun w => by rw [w, i_lt] at hlt2; omega
            rw [if_pos q, if_neg hne, ite_self]
          · rw [if_neg q]
    exact L nn 0 (by omega) (Nat.zero_le _)
end RelA
