/-! ===== bounds; plans that a cut breaks or is tight for; all plans; counts ===== -/
theorem i_add {a b : Int32} (h1 : -2147483648 ≤ a.toInt + b.toInt) (h2 : a.toInt + b.toInt < 2147483648) : (a + b).toInt = a.toInt + b.toInt := by
  rw [Int32.toInt_add]
  exact Int.bmod_eq_of_le (by omega) (by omega)
theorem i_sub {a b : Int32} (h1 : -2147483648 ≤ a.toInt - b.toInt) (h2 : a.toInt - b.toInt < 2147483648) : (a - b).toInt = a.toInt - b.toInt := by
  rw [Int32.toInt_sub]
  exact Int.bmod_eq_of_le (by omega) (by omega)
theorem i_mul {a b : Int32} (h1 : -2147483648 ≤ a.toInt * b.toInt) (h2 : a.toInt * b.toInt < 2147483648) : (a * b).toInt = a.toInt * b.toInt := by
  rw [Int32.toInt_mul]
  exact Int.bmod_eq_of_le (by omega) (by omega)
theorem mul_b {a b : Int32} (ha : rB a 1 20) (hb : rB b 0 100) : rB (a * b) 0 2000 := by
  have h1 : 0 ≤ a.toInt * b.toInt := Int.mul_nonneg (Int.le_trans (by decide) ha.1) hb.1
  have h2 : a.toInt * b.toInt ≤ 20 * 100 := Int.mul_le_mul ha.2 hb.2 hb.1 (by decide)
  unfold rB
  rw [i_mul (by omega) (by omega)]
  omega
theorem add_b {a b : Int32} {i : Nat} (hi : i < 8) (ha : rB a 0 (2000 * i)) (hb : rB b 0 2000) : rB (a + b) 0 (2000 * (i + 1 : Nat)) := by
  obtain ⟨a1, a2⟩ := ha
  obtain ⟨b1, b2⟩ := hb
  unfold rB
  rw [i_add (by omega) (by omega)]
  omega
section RelD
variable {nn mm kk : Nat} {so : SoC} {x : PlC} {u : CuC} {y : MoC}
theorem sU_b {r : Nat → Int32} {q mm : Nat} (hm : mm ≤ 8) (hd : ∀ i, i < mm → rB (r (13 + i)) 1 20) (hu : ∀ i, i < mm → rB (r (q + 1 + i)) 0 99) : ∀ (d i : Nat) (a : Int32), i + d = mm → rB a 0 (2000 * i) → rB (sU r q d i a) 0 16000 := by
  intro d
  induction d with
  | zero => intro i a hid ha; rw [sU]; exact ⟨ha.1, by have := ha.2; omega⟩
  | succ d ih =>
    intro i a hid ha
    rw [sU]
    exact ih _ _ (by omega) (add_b (by omega) ha (mul_b (hd i (by omega)) ⟨(hu i (by omega)).1, by have := (hu i (by omega)).2; omega⟩))
theorem sW_b {r : Nat → Int32} {q s mm : Nat} (hm : mm ≤ 8) (hd : ∀ i, i < mm → rB (r (13 + i)) 1 20) (hu : ∀ i, i < mm → rB (r (q + 1 + i)) 0 99) (hr : ∀ i, i < mm → rB (r (21 + 8 * s + i)) 0 100) : ∀ (d i : Nat) (a : Int32), i + d = mm → rB a 0 (2000 * i) → rB (sW r q s d i a) 0 16000 := by
  intro d
  induction d with
  | zero => intro i a hid ha; rw [sW]; exact ⟨ha.1, by have := ha.2; omega⟩
  | succ d ih =>
    intro i a hid ha
    rw [sW]
    refine ih _ _ (by omega) (add_b (by omega) ha (mul_b (hd i (by omega)) ?_))
    by_cases c : nI 0 < r (q + 1 + i) - r (21 + 8 * s + i)
    · rw [if_pos c]
      obtain ⟨u1, u2⟩ := hu i (by omega)
      obtain ⟨r1, r2⟩ := hr i (by omega)
      unfold rB
      rw [i_sub (by omega) (by omega)]
      rw [i_lt, i_sub (by omega) (by omega)] at c
      have e0 : (nI 0).toInt = 0 := by decide
      rw [e0] at c
      omega
    · rw [if_neg c]; exact ⟨by decide, by decide⟩
theorem value_b (h : RelS nn mm kk so x u (oR y)) {k p : Nat} (hk : k < kk) (hp : p < 2 ^ nn) (hr : f_X6_isRay y nn mm kk k = false) : rB (f_X6_valueOf y nn mm kk k (nI p)) (-112000) 16000 := by
  have hn := h.1.1.1
  have hm := h.1.1.2.1
  rw [← rk_value h.2.1 hn hm hk hp hr]
  rcases h.2.1.2.2.2 k hk with ⟨c, hc, hq, -⟩ | ⟨-, -, hS, hW, hu⟩
  · exfalso
    unfold f_X6_isRay at hr
    rw [hq, if_neg (nI_pos (by omega))] at hr
    exact absurd hr (by decide)
  · have hd : ∀ i, i < mm → rB (oR y (13 + i)) 1 20 := fun i hi => (h.1.2.2.2.1 i hi).2
    have hS2 : rB (kS u k) 0 16000 := by rw [hS]; exact sU_b hm hd hu mm 0 _ (by omega) ⟨by decide, by decide⟩
    have L : ∀ (d i : Nat) (a : Int32), i + d = 7 → rB a 0 (16000 * i) → rB (l_X1_weightOf_5 u k (nI p) d i a) 0 112000 := by
      intro d
      induction d with
      | zero => intro i a hid ha; rw [l_X1_weightOf_5]; exact ⟨ha.1, by have := ha.2; omega⟩
      | succ d ih =>
        intro i a hid ha
        rw [l_X1_weightOf_5, isIn_c (by omega)]
        by_cases c : bt (nI p) i = true
        · have hi : i < nn := by
            by_cases q : i < nn
            · exact q
            · rw [bt_out hn hp (by omega) (by omega)] at c; exact absurd c (by decide)
          rw [if_pos c]
          refine ih _ _ (by omega) ?_
          have hw : rB (kW u k i) 0 16000 := by rw [hW i hi]; exact sW_b hm hd hu (fun j hj => (h.1.2.2.2.2.1 i j hi hj).2) mm 0 _ (by omega) ⟨by decide, by decide⟩
          obtain ⟨a1, a2⟩ := ha
          obtain ⟨w1, w2⟩ := hw
          unfold rB
          rw [i_add (by omega) (by omega)]
          omega
        · rw [if_neg c]
          exact ih _ _ (by omega) ⟨ha.1, by have := ha.2; omega⟩
    have hWt : rB (f_X1_weightOf u k (nI p)) 0 112000 := L 7 0 _ rfl ⟨by decide, by decide⟩
    obtain ⟨s1, s2⟩ := hS2
    obtain ⟨w1, w2⟩ := hWt
    unfold f_X1_valueOf rB
    rw [i_sub (by omega) (by omega)]
    omega
theorem routes_b (h : RelP nn mm x (oR y)) {plan : Int32} (hs : ∀ c, c < mm → ¬ f_X6_server y nn mm kk plan c < 0) : rB (f_X6_routes y nn mm kk plan) 0 16000 := by
  have hn := h.1.1
  have hm := h.1.2.1
  have L : ∀ (d i : Nat) (a : Int32), i + d = mm → rB a 0 (2000 * i) → rB (l_X6_routes_4 y nn mm kk plan d i a) 0 16000 := by
    intro d
    induction d with
    | zero => intro i a hid ha; rw [l_X6_routes_4]; exact ⟨ha.1, by have := ha.2; omega⟩
    | succ d ih =>
      intro i a hid ha
      rw [l_X6_routes_4]
      have hsv := server_n hn (hs i (by omega))
      exact ih _ _ (by omega) (add_b (by omega) ha (mul_b (h.2.2.2.1 i (by omega)).2 (h.2.2.2.2.1 _ i hsv.2 (by omega)).2))
  exact L mm 0 _ (by omega) ⟨by decide, by decide⟩
theorem s0 {a b : Int32} : a - b = 0 ↔ a = b := ⟨fun h => by grind, fun h => by grind⟩
theorem rs_break (h : RelS nn mm kk so x u (oR y)) {k : Nat} (hk : k < kk) : f_X4_countPlansThatBreak so x u k = f_X6_plansBy y nn mm kk k false := by
  have hn := h.1.1.1
  have hm := h.1.1.2.1
  have L : ∀ (d i n : Nat), i + d = 2 ^ nn → l_X4_countPlansThatBreak_4 so x u k d i n = l_X6_plansBy_5 y nn mm kk k false d i n := by
    intro d
    induction d with
    | zero => intro i n _; rfl
    | succ d ih =>
      intro i n hid
      have hi : i < 2 ^ nn := by omega
      rw [l_X4_countPlansThatBreak_4, l_X6_plansBy_5, rp_feas (kk := kk) h.1 hi, ih _ _ (by omega), ih _ _ (by omega)]
      by_cases c : f_X6_isFeasible y nn mm kk (nI i) = true
      · rw [if_pos c, if_pos c]
        unfold f_X4_isBroken
        rw [rk_ray h.2.1 hm hk]
        by_cases c2 : f_X6_isRay y nn mm kk k = true
        · rw [if_pos c2, if_pos c2, rk_asked h.2.1 hn hm hk hi c2, if_neg (by decide : ¬ false = true)]
          by_cases c3 : f_X6_asked y nn mm kk k (nI i) = 0
          · rw [if_pos c3, if_pos rfl, if_pos (show _ = nI 0 from c3)]
          · rw [if_neg c3, if_neg (by decide), if_neg (show ¬ _ = nI 0 from c3)]
        · have c2' : f_X6_isRay y nn mm kk k = false := by simpa using c2
          have hs := missed_server hn hm (feas_missed c)
          have hv := value_b h hk hi c2'
          have hrt := routes_b (kk := kk) h.1 hs
          rw [if_neg c2, if_neg c2, if_neg (by decide : ¬ false = true), rk_value h.2.1 hn hm hk hi c2', rp_routes (kk := kk) h.1 hs]
          have e : (0 < f_X6_valueOf y nn mm kk k (nI i) - f_X6_routes y nn mm kk (nI i)) ↔ (f_X6_routes y nn mm kk (nI i) < f_X6_valueOf y nn mm kk k (nI i)) := by
            obtain ⟨v1, v2⟩ := hv
            obtain ⟨r1, r2⟩ := hrt
            rw [i_lt, i_lt, i_sub (by omega) (by omega)]
            have e0 : (0 : Int32).toInt = 0 := by decide
            rw [e0]
            omega
          by_cases c3 : f_X6_routes y nn mm kk (nI i) < f_X6_valueOf y nn mm kk k (nI i)
          · rw [if_pos c3, if_pos rfl, if_pos (e.mpr c3)]
          · rw [if_neg c3, if_neg (by decide), if_neg (fun q => c3 (e.mp q))]
      · rw [if_neg c, if_neg c]
  unfold f_X4_countPlansThatBreak f_X6_plansBy
  rw [h.1.1.2.2.1, L _ 0 0 (by omega)]
theorem rs_tight (h : RelS nn mm kk so x u (oR y)) {k : Nat} (hk : k < kk) : f_X4_countPlansThatAreTight so x u k = f_X6_plansBy y nn mm kk k true := by
  have hn := h.1.1.1
  have hm := h.1.1.2.1
  have L : ∀ (d i n : Nat), i + d = 2 ^ nn → l_X4_countPlansThatAreTight_4 so x u k d i n = l_X6_plansBy_5 y nn mm kk k true d i n := by
    intro d
    induction d with
    | zero => intro i n _; rfl
    | succ d ih =>
      intro i n hid
      have hi : i < 2 ^ nn := by omega
      rw [l_X4_countPlansThatAreTight_4, l_X6_plansBy_5, rp_feas (kk := kk) h.1 hi, ih _ _ (by omega), ih _ _ (by omega)]
      by_cases c : f_X6_isFeasible y nn mm kk (nI i) = true
      · rw [if_pos c, if_pos c]
        unfold f_X4_isTight
        rw [rk_ray h.2.1 hm hk]
        by_cases c2 : f_X6_isRay y nn mm kk k = true
        · rw [if_pos c2, if_pos c2, rk_asked h.2.1 hn hm hk hi c2, if_pos rfl]
          by_cases c3 : f_X6_asked y nn mm kk k (nI i) = nI 1
          · rw [if_pos c3, if_pos rfl, if_pos c3]
          · rw [if_neg c3, if_neg (by decide), if_neg c3]
        · have c2' : f_X6_isRay y nn mm kk k = false := by simpa using c2
          have hs := missed_server hn hm (feas_missed c)
          rw [if_neg c2, if_neg c2, if_pos rfl, rk_value h.2.1 hn hm hk hi c2', rp_routes (kk := kk) h.1 hs]
          by_cases c3 : f_X6_valueOf y nn mm kk k (nI i) = f_X6_routes y nn mm kk (nI i)
          · rw [if_pos c3, if_pos rfl, if_pos (s0.mpr c3)]
          · rw [if_neg c3, if_neg (by decide), if_neg (fun q => c3 (s0.mp q))]
      · rw [if_neg c, if_neg c]
  unfold f_X4_countPlansThatAreTight f_X6_plansBy
  rw [h.1.1.2.2.1, L _ 0 0 (by omega)]
def bP (nn mm kk : Nat) (x : PlC) (y : MoC) (a b g : Int32) : Prop := (a = (-1) ∧ b = (-5)) ∨ ∃ p, p < 2 ^ nn ∧ a = nI p ∧ b = nI p ∧ g = f_X3_costOf x (nI p)
theorem bP.iff {a b g : Int32} (h : bP nn mm kk x y a b g) (hn : nn ≤ 7) : a = (-1) ↔ b < 0 := by
  refine nP.iff (nn := nn) ?_ hn
  rcases h with h | ⟨p, hp, ha, hb, -⟩
  · exact Or.inl h
  · exact Or.inr ⟨p, hp, ha, hb⟩
theorem rp_byAll (h : RelP nn mm x (oR y)) (what : Int32) : bP nn mm kk x y (f_X3_findBestPlan x) (l_X6_byAll_23 y nn mm kk what (2 ^ nn) 0 (-5) (nI 0) 0).1 (l_X6_byAll_23 y nn mm kk what (2 ^ nn) 0 (-5) (nI 0) 0).2.1 ∧ f_X3_countFeasiblePlans x = nI (l_X6_byAll_23 y nn mm kk what (2 ^ nn) 0 (-5) (nI 0) 0).2.2 := by
  have hn := h.1.1
  have hm := h.1.2.1
  have L : ∀ (d i n : Nat) (a b g : Int32), i + d = 2 ^ nn → bP nn mm kk x y a b g → bP nn mm kk x y (l_X3_findBestPlan_6 x d i a g).1 (l_X6_byAll_23 y nn mm kk what d i b g n).1 (l_X6_byAll_23 y nn mm kk what d i b g n).2.1 ∧ l_X3_countFeasiblePlans_4 x d i n = (l_X6_byAll_23 y nn mm kk what d i b g n).2.2 := by
    intro d
    induction d with
    | zero => intro i n a b g _ hab; exact ⟨hab, rfl⟩
    | succ d ih =>
      intro i n a b g hid hab
      have hi : i < 2 ^ nn := by omega
      rw [l_X3_findBestPlan_6, l_X6_byAll_23, l_X3_countFeasiblePlans_4, rp_feas (kk := kk) h hi]
      by_cases c : f_X6_isFeasible y nn mm kk (nI i) = true
      · have hcost := rp_cost (kk := kk) h (missed_server hn hm (feas_missed c))
        have hnew : bP nn mm kk x y (nI i) (nI i) (f_X3_costOf x (nI i)) := Or.inr ⟨i, hi, rfl, rfl, rfl⟩
        rw [if_pos c, if_pos c, if_pos c, ← hcost]
        by_cases c3 : b < 0
        · rw [if_pos c3, if_pos ((hab.iff hn).mpr c3)]
          exact ih _ _ _ _ _ (by omega) hnew
        · rw [if_neg c3, if_neg (fun q => c3 ((hab.iff hn).mp q))]
          by_cases c4 : f_X3_costOf x (nI i) < g
          · rw [if_pos c4, if_pos c4]; exact ih _ _ _ _ _ (by omega) hnew
          · rw [if_neg c4, if_neg c4]; exact ih _ _ _ _ _ (by omega) hab
      · rw [if_neg c, if_neg c, if_neg c]
        exact ih _ _ _ _ _ (by omega) hab
  have := L (2 ^ nn) 0 0 (-1) (-5) (nI 0) (by omega) (Or.inl ⟨rfl, rfl⟩)
  unfold f_X3_findBestPlan f_X3_countFeasiblePlans
  rw [h.1.2.2.1]
  exact ⟨this.1, congrArg nI this.2⟩
theorem rk_rays (h : RelK nn mm kk u (oR y)) (hm : mm ≤ 8) : f_X1_countRays u = f_X6_rays y nn mm kk := by
  have L : ∀ (d i n : Nat), i + d = kk → l_X1_countRays_4 u d i n = l_X6_rays_4 y nn mm kk d i n := by
    intro d
    induction d with
    | zero => intro i n _; rfl
    | succ d ih =>
      intro i n hid
      rw [l_X1_countRays_4, l_X6_rays_4, rk_ray h hm (by omega), ih _ _ (by omega), ih _ _ (by omega)]
  unfold f_X1_countRays f_X6_rays
  rw [h.2.1, L kk 0 0 (by omega)]
/-! counting -/
def cN (P : Nat → Bool) : Nat → Nat
  | 0 => 0
  | n + 1 => cN P n + (if P n = true then 1 else 0)
theorem cN_cg {P Q : Nat → Bool} : ∀ {n : Nat}, (∀ i, i < n → P i = Q i) → cN P n = cN Q n := by
  intro n
  induction n with
  | zero => intro _; rfl
  | succ n ih => intro h; rw [cN, cN, ih (fun i hi => h i (by omega)), h n (by omega)]
theorem cN_le {P : Nat → Bool} : ∀ n, cN P n ≤ n := by
  intro n
  induction n with
  | zero => exact Nat.le_refl _
  | succ n ih => rw [cN]; split <;> omega
theorem cN_add {P : Nat → Bool} (a : Nat) : ∀ b, cN P (a + b) = cN P a + cN (fun i => P (a + i)) b := by
  intro b
  induction b with
  | zero => rfl
  | succ b ih => rw [show a + (b + 1) = (a + b) + 1 by omega, cN, cN, ih]; omega
theorem cN_0 {P : Nat → Bool} : ∀ {n : Nat}, (∀ i, i < n → P i = false) → cN P n = 0 := by
  intro n
  induction n with
  | zero => intro _; rfl
  | succ n ih => intro h; rw [cN, ih (fun i hi => h i (by omega)), h n (by omega)]; rfl
def cT (P : Nat → Nat → Bool) (m : Nat → Nat) : Nat → Nat
  | 0 => 0
  | n + 1 => cT P m n + cN (P n) (m n)
theorem all_c : f_X6_allRoutes y nn mm kk = nI (cN (fun k => decide (oR y (21 + k) < nI 100)) 56) := by
  have L : ∀ (d i n : Nat), l_X6_allRoutes_4 y nn mm kk d i n = n + cN (fun k => decide (oR y (21 + (i + k)) < nI 100)) d := by
    intro d
    induction d with
    | zero => intro i n; rfl
    | succ d ih =>
      intro i n
      rw [l_X6_allRoutes_4, ih, ih, show d + 1 = 1 + d by omega, cN_add 1 d]
      have e : (fun k => decide (oR y (21 + (i + (1 + k))) < nI 100)) = (fun k => decide (oR y (21 + (i + 1 + k)) < nI 100)) := by
        funext k; rw [show i + (1 + k) = i + 1 + k by omega]
      rw [e]
      have e1 : cN (fun k => decide (oR y (21 + (i + k)) < nI 100)) 1 = (if oR y (21 + i) < nI 100 then 1 else 0) := by
        show 0 + (if decide (oR y (21 + (i + 0)) < nI 100) = true then 1 else 0) = _
        simp
      rw [e1]
      split <;> omega
  unfold f_X6_allRoutes
  rw [L 56 0 0]
  simp
theorem rp_hasR (h : RelP nn mm x (oR y)) {k c : Nat} (hk : k < nn) (hc : c < mm) : f_X3_hasRoute x k c = decide (oR y (21 + 8 * k + c) < nI 100) := by
  obtain ⟨e1, hb⟩ := h.2.2.2.2.1 k c hk hc
  unfold f_X3_hasRoute
  rw [e1]
  have hb2 := hb.2
  by_cases q : oR y (21 + 8 * k + c) = nI 100
  · rw [if_pos q, q]; rfl
  · rw [if_neg q]
    have : (oR y (21 + 8 * k + c)).toInt ≠ 100 := fun w => q (Int32.toInt_inj.mp (w.trans t100.symm))
    have : oR y (21 + 8 * k + c) < nI 100 := by rw [i_lt, t100]; omega
    exact (decide_eq_true this).symm
theorem in_c (s : Nat) : ∀ (d i a : Nat) (j : Nat), l_X3_countRoutes_14 x s j d i a = a + cN (fun k => f_X3_hasRoute x s (i + k)) d := by
  intro d
  induction d with
  | zero => intro i a j; rfl
  | succ d ih =>
    intro i a j
    rw [l_X3_countRoutes_14, ih, ih, show d + 1 = 1 + d by omega, cN_add 1 d]
    have e : (fun k => f_X3_hasRoute x s (i + (1 + k))) = (fun k => f_X3_hasRoute x s (i + 1 + k)) := by
      funext k; rw [show i + (1 + k) = i + 1 + k by omega]
    rw [e]
    have e1 : cN (fun k => f_X3_hasRoute x s (i + k)) 1 = (if f_X3_hasRoute x s i = true then 1 else 0) := by
      show 0 + (if f_X3_hasRoute x s (i + 0) = true then 1 else 0) = _
      simp
    rw [e1]
    split <;> omega
theorem cT_cg {P Q : Nat → Nat → Bool} {m : Nat → Nat} : ∀ {n : Nat}, (∀ s c, s < n → c < m s → P s c = Q s c) → cT P m n = cT Q m n := by
  intro n
  induction n with
  | zero => intro _; rfl
  | succ n ih => intro h; rw [cT, cT, ih (fun s c hs hc => h s c (by omega) hc), cN_cg (fun c hc => h n c (by omega) hc)]
theorem rp_routesN (h : RelP nn mm x (oR y)) : f_X3_countRoutes x = f_X6_allRoutes y nn mm kk := by
  have hn := h.1.1
  have hm := h.1.2.1
  have L1 : ∀ (d i a : Nat), l_X3_countRoutes_4 x d i a + cT (fun s c => f_X3_hasRoute x s c) (fun _ => pM x) i = a + cT (fun s c => f_X3_hasRoute x s c) (fun _ => pM x) (i + d) := by
    intro d
    induction d with
    | zero => intro i a; rfl
    | succ d ih =>
      intro i a
      rw [l_X3_countRoutes_4, in_c]
      have := ih (i + 1) (a + cN (fun k => f_X3_hasRoute x i (0 + k)) (pM x))
      rw [cT] at this
      have e : (fun k => f_X3_hasRoute x i (0 + k)) = (fun k => f_X3_hasRoute x i k) := by funext k; rw [Nat.zero_add]
      rw [e] at this ⊢
      rw [show i + (d + 1) = i + 1 + d by omega]
      omega
  have L2 : ∀ m, m ≤ 7 → cN (fun k => decide (oR y (21 + k) < nI 100)) (8 * m) = cT (fun s c => decide (oR y (21 + 8 * s + c) < nI 100)) (fun _ => 8) m := by
    intro m
    induction m with
    | zero => intro _; rfl
    | succ m ih =>
      intro hm7
      rw [show 8 * (m + 1) = 8 * m + 8 by omega, cN_add, cT, ih (by omega)]
      have e : (fun i => decide (oR y (21 + (8 * m + i)) < nI 100)) = (fun c => decide (oR y (21 + 8 * m + c) < nI 100)) := by
        funext i; rw [show 21 + (8 * m + i) = 21 + 8 * m + i by omega]
      rw [e]
  have L3 : ∀ m, m ≤ 7 → cT (fun s c => decide (oR y (21 + 8 * s + c) < nI 100)) (fun _ => 8) m = cT (fun s c => decide (oR y (21 + 8 * s + c) < nI 100)) (fun _ => mm) (if m ≤ nn then m else nn) := by
    intro m
    induction m with
    | zero => intro _; rw [if_pos (Nat.zero_le _)]; rfl
    | succ m ih =>
      intro hm7
      rw [cT, ih (by omega)]
      have out : ∀ c, c < 8 → ¬ (m < nn ∧ c < mm) → decide (oR y (21 + 8 * m + c) < nI 100) = false := by
        intro c hc q
        rw [h.2.2.2.2.2.1 m c (by omega) hc q]; rfl
      by_cases q : m < nn
      · rw [if_pos (by omega), if_pos (by omega), cT]
        congr 1
        have e8 : 8 = mm + (8 - mm) := by omega
        have := cN_add (P := fun c => decide (oR y (21 + 8 * m + c) < nI 100)) mm (8 - mm)
        rw [← e8] at this
        rw [this, cN_0 (P := fun i => decide (oR y (21 + 8 * m + (mm + i)) < nI 100)) (fun i hi => out (mm + i) (by omega) (by omega))]
        omega
      · have e0 := cN_0 (P := fun c => decide (oR y (21 + 8 * m + c) < nI 100)) (n := 8) (fun i hi => out i hi (fun w => q w.1))
        rw [e0]
        by_cases q2 : m ≤ nn
        · rw [if_pos q2, if_neg (by omega), show m = nn by omega]; omega
        · rw [if_neg q2, if_neg (by omega)]; omega
  rw [all_c]
  unfold f_X3_countRoutes
  congr 1
  have a1 := L1 (pN x) 0 0
  rw [show (56 : Nat) = 8 * 7 from rfl, L2 7 (by decide), L3 7 (by decide)]
  have e7 : (if 7 ≤ nn then 7 else nn) = nn := by split <;> omega
  rw [e7]
  rw [h.1.2.2.1, h.1.2.2.2] at a1
  have a3 : cT (fun s c => f_X3_hasRoute x s c) (fun _ => mm) nn = cT (fun s c => decide (oR y (21 + 8 * s + c) < nI 100)) (fun _ => mm) nn := cT_cg (fun s c hs hc => rp_hasR h hs hc)
  have a2 : cT (fun s c => f_X3_hasRoute x s c) (fun _ => mm) 0 = 0 := rfl
  rw [show 0 + nn = nn from Nat.zero_add nn, a3, a2] at a1
  rw [h.1.2.2.1]
  omega
end RelD
