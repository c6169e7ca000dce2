/-! ===== cuts beside the row ===== -/
def sU (r : Nat → Int32) (q : Nat) : Nat → Nat → Int32 → Int32
  | 0, i, a => a
  | d + 1, i, a => sU r q d (i + 1) (a + r (13 + i) * r (q + 1 + i))
def sW (r : Nat → Int32) (q s : Nat) : Nat → Nat → Int32 → Int32
  | 0, i, a => a
  | d + 1, i, a => sW r q s d (i + 1) (a + r (13 + i) * (if nI 0 < r (q + 1 + i) - r (21 + 8 * s + i) then r (q + 1 + i) - r (21 + 8 * s + i) else nI 0))
def CutR (nn mm : Nat) (cC cS : Int32) (cW : Nat → Int32) (r : Nat → Int32) (q : Nat) : Prop := (∃ c, c < mm ∧ r q = nI c ∧ cC = nI c ∧ cS = nI 1 ∧ ∀ s, s < nn → cW s = (if r (21 + 8 * s + c) < nI 100 then nI 1 else nI 0)) ∨ (r q = (-5) ∧ cC = (-1) ∧ cS = sU r q mm 0 (nI 0) ∧ (∀ s, s < nn → cW s = sW r q s mm 0 (nI 0)) ∧ ∀ c, c < mm → rB (r (q + 1 + c)) 0 99)
def RelK (nn mm kk : Nat) (y : CuC) (r : Nat → Int32) : Prop := kk ≤ 40 ∧ kA y = kk ∧ r 3 = nI kk ∧ ∀ k, k < kk → CutR nn mm (kC y k) (kS y k) (kW y k) r (84 + 9 * k)
def RelB (nn mm : Nat) (so : SoC) (r : Nat → Int32) : Prop := uT so = r 5 ∧ ((uB so = (-1) ∧ r 4 = (-5)) ∨ ∃ p, p < 2 ^ nn ∧ uB so = nI p ∧ r 4 = nI p ∧ ∀ c, c < mm → ∃ k, k < nn ∧ bt (nI p) k = true ∧ r (21 + 8 * k + c) < nI 100)
def RelS (nn mm kk : Nat) (so : SoC) (x : PlC) (y : CuC) (r : Nat → Int32) : Prop := RelP nn mm x r ∧ RelK nn mm kk y r ∧ RelB nn mm so r
theorem sU_cg {r r' : Nat → Int32} {q q' mm : Nat} (h1 : ∀ i, i < mm → r' (13 + i) = r (13 + i)) (h2 : ∀ i, i < mm → r' (q' + 1 + i) = r (q + 1 + i)) : ∀ (d i : Nat) (a : Int32), i + d = mm → sU r' q' d i a = sU r q d i a := by
  intro d
  induction d with
  | zero => intro i a _; rfl
  | succ d ih => intro i a hid; rw [sU, sU, h1 i (by omega), h2 i (by omega)]; exact ih _ _ (by omega)
theorem sW_cg {r r' : Nat → Int32} {q q' mm s : Nat} (h1 : ∀ i, i < mm → r' (13 + i) = r (13 + i)) (h2 : ∀ i, i < mm → r' (q' + 1 + i) = r (q + 1 + i)) (h3 : ∀ i, i < mm → r' (21 + 8 * s + i) = r (21 + 8 * s + i)) : ∀ (d i : Nat) (a : Int32), i + d = mm → sW r' q' s d i a = sW r q s d i a := by
  intro d
  induction d with
  | zero => intro i a _; rfl
  | succ d ih => intro i a hid; rw [sW, sW, h1 i (by omega), h2 i (by omega), h3 i (by omega)]; exact ih _ _ (by omega)
theorem CutR.cg {nn mm : Nat} {cC cS cC' cS' : Int32} {cW cW' : Nat → Int32} {r r' : Nat → Int32} {q q' : Nat} (h : CutR nn mm cC cS cW r q) (hm : mm ≤ 8) (h1 : ∀ i, i < mm → r' (13 + i) = r (13 + i)) (h2 : ∀ i, i < 9 → r' (q' + i) = r (q + i)) (h3 : ∀ s i, s < nn → i < mm → r' (21 + 8 * s + i) = r (21 + 8 * s + i)) (eC : cC' = cC) (eS : cS' = cS) (eW : ∀ s, s < nn → cW' s = cW s) : CutR nn mm cC' cS' cW' r' q' := by
  have h20 : r' q' = r q := h2 0 (by decide)
  have h21 : ∀ i, i < mm → r' (q' + 1 + i) = r (q + 1 + i) := fun i hi => by rw [show q' + 1 + i = q' + (1 + i) by omega, show q + 1 + i = q + (1 + i) by omega]; exact h2 (1 + i) (by omega)
  rcases h with ⟨c, hc, hr, hC, hS, hW⟩ | ⟨hr, hC, hS, hW, hu⟩
  · refine Or.inl ⟨c, hc, h20.trans hr, eC.trans hC, eS.trans hS, fun s hs => ?_⟩
    rw [eW s hs, hW s hs, h3 s c hs hc]
  · refine Or.inr ⟨h20.trans hr, eC.trans hC, ?_, fun s hs => ?_, fun c hc => ?_⟩
    · rw [eS, hS]; exact (sU_cg h1 h21 mm 0 _ (by omega)).symm
    · rw [eW s hs, hW s hs]; exact (sW_cg h1 h21 (fun i hi => h3 s i hs hi) mm 0 _ (by omega)).symm
    · rw [h21 c hc]; exact hu c hc
theorem tn_nI {c : Nat} (h : c < 2 ^ 31) : tn (nI c) = c := nI_clamp h
section RelC
variable {nn mm kk : Nat} {so : SoC} {x : PlC} {u : CuC} {y : MoC}
theorem rk_ray (h : RelK nn mm kk u (oR y)) (hm : mm ≤ 8) {k : Nat} (hk : k < kk) : f_X1_isRay u k = f_X6_isRay y nn mm kk k := by
  unfold f_X1_isRay f_X6_isRay
  rcases h.2.2.2 k hk with ⟨c, hc, hr, hC, -⟩ | ⟨hr, hC, -⟩
  · rw [hr, hC, if_neg (nI_pos (by omega)), if_neg (fun e => ?_)]
    have := nI_pos (show c < 2 ^ 31 by omega)
    rw [e] at this; exact absurd (by decide) this
  · rw [hr, hC, if_pos rfl, if_pos (by decide)]
theorem rk_wt {k s : Nat} : f_X6_weightOf y nn mm kk k s = sW (oR y) (84 + 9 * k) s mm 0 (nI 0) := by
  have L : ∀ (d i : Nat) (a : Int32), l_X6_weightOf_5 y nn mm kk k s d i a = sW (oR y) (84 + 9 * k) s d i a := by
    intro d
    induction d with
    | zero => intro i a; rfl
    | succ d ih =>
      intro i a
      rw [l_X6_weightOf_5, sW, ih, ih]
      by_cases c : 0 < oR y (84 + 9 * k + 1 + i) - oR y (21 + 8 * s + i)
      · rw [if_pos c, if_pos (show nI 0 < _ from c)]
      · rw [if_neg c, if_neg (show ¬ nI 0 < _ from c)]
        have : oR y (13 + i) * nI 0 = nI 0 := Int32.mul_zero
        rw [this]
  exact L mm 0 _
theorem rk_st {plan : Int32} {k : Nat} : l_X6_valueOf_5 y nn mm kk k plan mm 0 (nI 0) = sU (oR y) (84 + 9 * k) mm 0 (nI 0) := by
  have L : ∀ (d i : Nat) (a : Int32), l_X6_valueOf_5 y nn mm kk k plan d i a = sU (oR y) (84 + 9 * k) d i a := by
    intro d
    induction d with
    | zero => intro i a; rfl
    | succ d ih => intro i a; rw [l_X6_valueOf_5, sU, ih]
  exact L mm 0 _
theorem bt_lt : ∀ p, p < 128 → ∀ i, i < 32 → bt (nI p) i = decide (p / 2 ^ i % 2 = 1) := by decide +kernel
theorem bt_out {n p i : Nat} (hn : n ≤ 7) (hp : p < 2 ^ n) (hi : n ≤ i) (h2 : i < 32) : bt (nI p) i = false := by
  rw [bt_lt p (Nat.lt_of_lt_of_le hp (pw7 hn)) i h2]
  have : p / 2 ^ i = 0 := Nat.div_eq_of_lt (Nat.lt_of_lt_of_le hp (Nat.pow_le_pow_right (by decide) hi))
  rw [this]; rfl
theorem rk_value (h : RelK nn mm kk u (oR y)) (hn : nn ≤ 7) (hm : mm ≤ 8) {k p : Nat} (hk : k < kk) (hp : p < 2 ^ nn) (hr : f_X6_isRay y nn mm kk k = false) : f_X1_valueOf u k (nI p) = f_X6_valueOf y nn mm kk k (nI p) := by
  have hcut : kS u k = sU (oR y) (84 + 9 * k) mm 0 (nI 0) ∧ ∀ s, s < nn → kW u k s = sW (oR y) (84 + 9 * k) s mm 0 (nI 0) := by
    rcases h.2.2.2 k hk with ⟨c, hc, hq, -⟩ | ⟨-, -, hS, hW, -⟩
    · exfalso
      unfold f_X6_isRay at hr
      by_cases c2 : oR y (84 + 9 * k) < 0
      · rw [hq] at c2; exact nI_pos (by omega) c2
      · rw [if_neg c2] at hr; exact absurd hr (by decide)
    · exact ⟨hS, hW⟩
  have L : ∀ (d i : Nat) (a b : Int32), i + d = 7 → i ≤ nn ∨ True → kS u k - b = a → kS u k - l_X1_weightOf_5 u k (nI p) d i b = l_X6_valueOf_56 y nn mm kk k (nI p) (nn - i) i a := by
    intro d
    induction d with
    | zero =>
      intro i a b hid _ hab
      rw [show nn - i = 0 by omega]
      exact hab
    | succ d ih =>
      intro i a b hid _ hab
      rw [l_X1_weightOf_5, isIn_c (by omega)]
      by_cases hi : i < nn
      · obtain ⟨e, he⟩ : ∃ e, nn - i = e + 1 := ⟨nn - i - 1, by omega⟩
        have he2 : nn - (i + 1) = e := by omega
        rw [he, l_X6_valueOf_56, isIn_m (by omega), rk_wt, ← hcut.2 i hi]
        by_cases c : bt (nI p) i = true
        · rw [if_pos c, if_pos c, ← he2]
          exact ih (i + 1) _ _ (by omega) (Or.inr trivial) (by rw [← hab]; grind)
        · rw [if_neg c, if_neg c, ← he2]
          exact ih (i + 1) _ _ (by omega) (Or.inr trivial) (by rw [← hab]; exact (Int32.sub_zero _).symm)
      · rw [bt_out hn hp (by omega) (by omega), if_neg (by decide)]
        have e2 := ih (i + 1) a b (by omega) (Or.inr trivial) hab
        rw [show nn - (i + 1) = 0 by omega] at e2
        rw [show nn - i = 0 by omega]
        exact e2
  unfold f_X1_valueOf f_X6_valueOf f_X1_weightOf
  rw [rk_st, ← hcut.1]
  exact L 7 0 _ _ rfl (Or.inr trivial) (Int32.sub_zero _)
theorem bit1 {v : Int32} {i : Nat} (hi : i < 32) : ((v >>> (nI i &&& 31)) &&& nI 1) = (if bt v i = true then nI 1 else nI 0) := by
  by_cases c : bt v i = true
  · rw [if_pos c]; exact and1_t ((sh0 hi).trans c)
  · rw [if_neg c]; exact and1_f ((sh0 hi).trans (by simpa using c))
theorem rk_asked (h : RelK nn mm kk u (oR y)) (hn : nn ≤ 7) (hm : mm ≤ 8) {k p : Nat} (hk : k < kk) (hp : p < 2 ^ nn) (hr : f_X6_isRay y nn mm kk k = true) : f_X1_weightOf u k (nI p) = f_X6_asked y nn mm kk k (nI p) := by
  obtain ⟨c, hc, hq, -, -, hW⟩ : ∃ c, c < mm ∧ oR y (84 + 9 * k) = nI c ∧ kC u k = nI c ∧ kS u k = nI 1 ∧ ∀ s, s < nn → kW u k s = (if oR y (21 + 8 * s + c) < nI 100 then nI 1 else nI 0) := by
    rcases h.2.2.2 k hk with q | ⟨hq, -⟩
    · exact q
    · exfalso
      unfold f_X6_isRay at hr
      rw [hq, if_pos (by decide)] at hr
      exact absurd hr (by decide)
  unfold f_X1_weightOf f_X6_asked f_X6_many
  rw [hq, tn_nI (show c < 2 ^ 31 by omega)]
  have L : ∀ (d i : Nat) (a : Int32), i + d = 7 → l_X1_weightOf_5 u k (nI p) d i a = l_X6_many_4 (nI p &&& f_X6_reachedFrom y nn mm kk c) d i a := by
    intro d
    induction d with
    | zero => intro i a _; rfl
    | succ d ih =>
      intro i a hid
      rw [l_X1_weightOf_5, l_X6_many_4, isIn_c (by omega), bit1 (by omega), b_and, reached_bt hn (by omega)]
      by_cases c1 : bt (nI p) i = true
      · have hi : i < nn := by
          by_cases q : i < nn
          · exact q
          · rw [bt_out hn hp (by omega) (by omega)] at c1; exact absurd c1 (by decide)
        rw [if_pos c1, hW i hi, ih _ _ (by omega), c1]
        by_cases c2 : oR y (21 + 8 * i + c) < nI 100
        · rw [if_pos c2, if_pos (by simp [hi, c2])]
        · rw [if_neg c2, if_neg (by simp [c2])]
      · rw [if_neg c1, ih _ _ (by omega), if_neg (by simp [c1])]
        exact congrArg _ (Int32.add_zero a).symm
  exact L 7 0 _ rfl
theorem rk_missed (h : RelK nn mm kk u (oR y)) (hn : nn ≤ 7) (hm : mm ≤ 8) {p : Nat} (hp : p < 2 ^ nn) : f_X1_countMissedRays u (nI p) = f_X6_raysMissed y nn mm kk (nI p) := by
  have L : ∀ (d i n : Nat), i + d = kk → l_X1_countMissedRays_4 u (nI p) d i n = l_X6_raysMissed_4 y nn mm kk (nI p) d i n := by
    intro d
    induction d with
    | zero => intro i n _; rfl
    | succ d ih =>
      intro i n hid
      rw [l_X1_countMissedRays_4, l_X6_raysMissed_4, rk_ray h hm (by omega), ih _ _ (by omega), ih _ _ (by omega)]
      by_cases c : f_X6_isRay y nn mm kk i = true
      · rw [if_pos c, if_pos c, rk_asked h hn hm (by omega) hp c]
      · rw [if_neg c, if_neg c]
  unfold f_X1_countMissedRays f_X6_raysMissed
  rw [h.2.1, L kk 0 0 (by omega)]
theorem rk_great (h : RelK nn mm kk u (oR y)) (hn : nn ≤ 7) (hm : mm ≤ 8) {p : Nat} (hp : p < 2 ^ nn) : f_X1_greatestValue u (nI p) = l_X6_guess_4 y nn mm kk (nI p) kk 0 (nI 0) := by
  have L : ∀ (d i : Nat) (a : Int32), i + d = kk → ¬ a < nI 0 → l_X1_greatestValue_4 u (nI p) d i a = l_X6_guess_4 y nn mm kk (nI p) d i a := by
    intro d
    induction d with
    | zero => intro i a _ _; rfl
    | succ d ih =>
      intro i a hid ha
      rw [l_X1_greatestValue_4, l_X6_guess_4, rk_ray h hm (by omega)]
      by_cases c : f_X6_isRay y nn mm kk i = true
      · rw [if_pos c, if_pos c, if_neg ha]
        exact ih _ _ (by omega) ha
      · rw [if_neg c, if_neg c, rk_value h hn hm (by omega) hp (by simpa using c)]
        by_cases c2 : a < f_X6_valueOf y nn mm kk i (nI p)
        · rw [if_pos c2, if_pos c2]
          exact ih _ _ (by omega) (by rw [i_lt] at ha c2 ⊢; omega)
        · rw [if_neg c2, if_neg c2]
          exact ih _ _ (by omega) ha
  unfold f_X1_greatestValue
  rw [h.2.1]
  exact L kk 0 _ (by omega) (by decide)
theorem rs_guess (h : RelS nn mm kk so x u (oR y)) {p : Nat} (hp : p < 2 ^ nn) : f_X4_guessOf so x u (nI p) = f_X6_guess y nn mm kk (nI p) := by
  unfold f_X4_guessOf f_X6_guess
  rw [rp_prices (kk := kk) h.1, rk_great h.2.1 h.1.1.1 h.1.1.2.1 hp]
def nP (nn : Nat) (a b : Int32) : Prop := (a = (-1) ∧ b = (-5)) ∨ ∃ p, p < 2 ^ nn ∧ a = nI p ∧ b = nI p
theorem nP.iff {nn : Nat} {a b : Int32} (h : nP nn a b) (hn : nn ≤ 7) : a = (-1) ↔ b < 0 := by
  have := pw7 hn
  rcases h with ⟨ha, hb⟩ | ⟨p, hp, ha, hb⟩
  · rw [ha, hb]; exact ⟨fun _ => by decide, fun _ => rfl⟩
  · rw [ha, hb]
    have h2 := nI_pos (show p < 2 ^ 31 by omega)
    exact ⟨fun e => absurd (by decide) (e ▸ h2), fun e => absurd e h2⟩
theorem rs_master (h : RelS nn mm kk so x u (oR y)) : nP nn (f_X4_findMasterPlan so x u) (f_X6_masterPlan y nn mm kk) := by
  have hn := h.1.1.1
  have hm := h.1.1.2.1
  have L : ∀ (d i : Nat) (a b g : Int32), i + d = 2 ^ nn → nP nn a b → nP nn (l_X4_findMasterPlan_6 so x u d i a g).1 (l_X6_masterPlan_7 y nn mm kk d i b g).1 := by
    intro d
    induction d with
    | zero => intro i a b g _ hab; exact hab
    | succ d ih =>
      intro i a b g hid hab
      have hi : i < 2 ^ nn := by omega
      rw [l_X4_findMasterPlan_6, l_X6_masterPlan_7, rs_guess h hi]
      have hfm : f_X4_isForMaster so x u (nI i) = true ↔ (f_X6_isAllowed y nn mm kk (nI i) = true ∧ f_X6_raysMissed y nn mm kk (nI i) = 0) := by
        unfold f_X4_isForMaster
        rw [rp_allowed (kk := kk) h.1 hi, rk_missed h.2.1 hn hm hi]
        by_cases c1 : f_X6_isAllowed y nn mm kk (nI i) = true
        · by_cases c2 : f_X6_raysMissed y nn mm kk (nI i) = 0
          · rw [if_pos c1, if_pos c2]; exact ⟨fun _ => ⟨c1, c2⟩, fun _ => rfl⟩
          · rw [if_pos c1, if_neg c2]; exact ⟨fun q => absurd q (by decide), fun q => absurd q.2 c2⟩
        · rw [if_neg c1]; exact ⟨fun q => absurd q (by decide), fun q => absurd q.1 c1⟩
      have hnew : nP nn (nI i) (nI i) := Or.inr ⟨i, hi, rfl, rfl⟩
      by_cases c1 : f_X6_isAllowed y nn mm kk (nI i) = true
      · by_cases c2 : f_X6_raysMissed y nn mm kk (nI i) = 0
        · rw [if_pos (hfm.mpr ⟨c1, c2⟩), if_pos c1, if_pos c2]
          by_cases c3 : b < 0
          · rw [if_pos c3, if_pos ((hab.iff hn).mpr c3)]
            exact ih _ _ _ _ (by omega) hnew
          · rw [if_neg c3, if_neg (fun q => c3 ((hab.iff hn).mp q))]
            by_cases c4 : f_X6_guess y nn mm kk (nI i) < g
            · rw [if_pos c4, if_pos c4]; exact ih _ _ _ _ (by omega) hnew
            · rw [if_neg c4, if_neg c4]; exact ih _ _ _ _ (by omega) hab
        · rw [if_neg (fun q => c2 (hfm.mp q).2), if_pos c1, if_neg c2]
          exact ih _ _ _ _ (by omega) hab
      · rw [if_neg (fun q => c1 (hfm.mp q).1), if_neg c1]
        exact ih _ _ _ _ (by omega) hab
  unfold f_X4_findMasterPlan f_X6_masterPlan
  rw [h.1.1.2.2.1]
  exact L _ 0 _ _ _ (by omega) (Or.inl ⟨rfl, rfl⟩)
theorem rs_above (h : RelS nn mm kk so x u (oR y)) {p : Nat} (hp : p < 2 ^ nn) : f_X1_greatestValue u (nI p) = f_X6_guess y nn mm kk (nI p) - f_X6_prices y nn mm kk (nI p) := by
  unfold f_X6_guess
  rw [rk_great h.2.1 h.1.1.1 h.1.1.2.1 hp]
  grind
theorem rk_loose (h : RelK nn mm kk u (oR y)) (hn : nn ≤ 7) (hm : mm ≤ 8) {k p : Nat} (hk : k < kk) (hp : p < 2 ^ nn) (g : Int32) : f_X1_isLoose u k (nI p) g = f_X6_isLoose y nn mm kk k (nI p) g := by
  unfold f_X1_isLoose f_X6_isLoose
  rw [rk_ray h hm hk]
  by_cases c : f_X6_isRay y nn mm kk k = true
  · rw [if_pos c, if_pos c, rk_asked h hn hm hk hp c]
  · rw [if_neg c, if_neg c, rk_value h hn hm hk hp (by simpa using c)]
theorem rs_loose (h : RelS nn mm kk so x u (oR y)) {p : Nat} (hp : p < 2 ^ nn) : f_X1_countLoose u (nI p) = nI (l_X6_dropLoose_29 y nn mm kk (nI p) (f_X6_guess y nn mm kk (nI p) - f_X6_prices y nn mm kk (nI p)) kk 0 0) := by
  have L : ∀ (d i n : Nat), i + d = kk → l_X1_countLoose_11 u (nI p) d i n = l_X6_dropLoose_29 y nn mm kk (nI p) (f_X6_guess y nn mm kk (nI p) - f_X6_prices y nn mm kk (nI p)) d i n := by
    intro d
    induction d with
    | zero => intro i n _; rfl
    | succ d ih =>
      intro i n hid
      rw [l_X1_countLoose_11, l_X6_dropLoose_29, rs_above h hp, rk_loose h.2.1 h.1.1.1 h.1.1.2.1 (by omega) hp, ih _ _ (by omega), ih _ _ (by omega)]
  unfold f_X1_countLoose
  rw [h.2.1.2.1, L kk 0 0 (by omega)]
theorem RelS.row (h : RelS nn mm kk so x u (oR y)) : RowOk y nn mm kk := by
  refine ⟨h.1.2.1.1, h.1.2.1.2.1, h.2.1.2.2.1, h.2.1.1, ?_, ?_⟩
  · have hm := h.1.1.2.1
    intro k hk hr
    rcases h.2.1.2.2.2 k hk with ⟨c, hc, hq, -⟩ | ⟨hq, -⟩
    · rw [hq, tn_nI (show c < 2 ^ 31 by omega)]; exact ⟨rfl, hc⟩
    · rw [hq] at hr; exact absurd (by decide) hr
  · intro h4 cn hcn
    rw [server_lt h.1.1.1]
    rcases h.2.2.2 with ⟨-, hb⟩ | ⟨p, hp, -, hb, hall⟩
    · rw [hb] at h4; exact absurd (by decide) h4
    · rw [hb]; exact fun q => q (hall cn hcn)
end RelC
