/-! ===== pairs; the calls that only tell ===== -/
theorem cT_succ {e : Nat → Nat → Bool} {m : Nat} : ∀ k, cT e (fun _ => m + 1) k = cT e (fun _ => m) k + cN (fun s => e s m) k := by
  intro k
  induction k with
  | zero => rfl
  | succ k ih => rw [cT, cT, cN, ih, cN]; omega
theorem pair_sum {e : Nat → Nat → Bool} {N : Nat} (hs : ∀ s j, s < N → j < N → e s j = e j s) (h0 : ∀ s, s < N → e s s = false) : ∀ n, n ≤ N → cT e (fun _ => n) n = 2 * cT e (fun s => s) n := by
  intro n
  induction n with
  | zero => intro _; rfl
  | succ n ih =>
    intro hn
    have e1 : cN (fun s => e s n) n = cN (e n) n := cN_cg (fun i hi => hs i n (by omega) (by omega))
    have e2 : cN (e n) (n + 1) = cN (e n) n := by rw [cN, h0 n (by omega)]; rfl
    rw [cT, cT_succ, e1, ih (by omega), cT, e2]
    omega
theorem many_c (v : Int32) : f_X6_many v = nI (cN (bt v) 7) := by
  have L : ∀ (d i n : Nat), i + d = 7 → l_X6_many_4 v d i (nI n) = nI (n + cN (fun k => bt v (i + k)) d) := by
    intro d
    induction d with
    | zero => intro i n _; rfl
    | succ d ih =>
      intro i n hid
      have e1 : nI n + ((v >>> (nI i &&& 31)) &&& nI 1) = nI (n + (if bt v i = true then 1 else 0)) := by
        rw [bit1 (by omega)]
        by_cases c : bt v i = true
        · rw [if_pos c, if_pos c]; exact nI_add _ _
        · rw [if_neg c, if_neg c]; exact nI_add _ _
      rw [l_X6_many_4, e1, ih (i + 1) _ (by omega), show d + 1 = 1 + d by omega, cN_add 1 d]
      have e : (fun k => bt v (i + (1 + k))) = (fun k => bt v (i + 1 + k)) := by
        funext k; rw [show i + (1 + k) = i + 1 + k by omega]
      rw [e]
      have e2 : cN (fun k => bt v (i + k)) 1 = (if bt v i = true then 1 else 0) := by
        show 0 + (if bt v (i + 0) = true then 1 else 0) = _
        simp
      rw [e2]
      congr 1
      omega
  unfold f_X6_many
  rw [L 7 0 0 rfl]
  congr 1
  rw [Nat.zero_add]
  exact cN_cg (fun i _ => by rw [Nat.zero_add])
theorem tt : true = true := rfl
theorem ff : ¬ (false = true) := by decide
theorem half : ∀ k, k < 64 → nI (2 * k) / nI 2 = nI k := by decide +kernel
def cl (n : Nat) (v : Int32) : Bool := if v < 0 then false else (if v < nI n then true else false)
def cm (n : Nat) (v : Int32) : Bool := if f_X6_in v (nI 0) (nI n - nI 1) = true then false else true
theorem cl_in {n : Nat} (hn : n < 2 ^ 31) (v : Int32) : (∃ j, j < n ∧ v = nI j ∧ cl n v = true ∧ cm n v = false) ∨ (cl n v = false ∧ cm n v = true) := by
  by_cases c : v < 0
  · right
    unfold cl cm f_X6_in
    rw [if_pos c, if_pos (show v < nI 0 from c)]
    exact ⟨rfl, rfl⟩
  · obtain ⟨j, hj, rfl⟩ := nI_of c
    by_cases c2 : j < n
    · left
      refine ⟨j, c2, rfl, ?_, ?_⟩
      · unfold cl; rw [if_neg c, if_pos ((nI_ltI hj hn).mpr c2)]
      · unfold cm f_X6_in
        have h4 : ¬ nI (n - 1) < nI j := fun q => by have := (nI_ltI (show n - 1 < 2 ^ 31 by omega) hj).mp q; omega
        rw [pk_sub (show 1 ≤ n by omega), if_neg (show ¬ nI j < nI 0 from c), if_neg h4, if_pos tt]
    · right
      refine ⟨?_, ?_⟩
      · unfold cl; rw [if_neg c, if_neg (fun q => c2 ((nI_ltI hj hn).mp q))]
      · unfold cm
        rw [if_neg (fun q => ?_)]
        have h := (in_n hn q).2
        rw [tn_nI hj] at h
        exact c2 h
theorem in_no {v : Int32} {a b : Nat} (ha : a < 2 ^ 31) (hb : b < 2 ^ 31) (h : v.toInt < a ∨ (b : Int) < v.toInt) : f_X6_in v (nI a) (nI b) = false := by
  unfold f_X6_in
  by_cases c : v < nI a
  · rw [if_pos c]
  · rw [if_neg c, if_pos ?_]
    rw [i_lt, nI_toInt ha] at c
    rw [i_lt, nI_toInt hb]
    omega
section RelE
variable {nn mm kk : Nat} {so : SoC} {x : PlC} {u : CuC} {y : MoC} {w : ZoC}
theorem rp_pairs (h : RelP nn mm x (oR y)) : f_X3_countExcludingPairs x = f_X6_pairs y nn mm kk := by
  have hn := h.1.1
  have hA : ∀ s o, s < nn → o < 32 → f_X3_areExcluding x s o = bt (oR y (77 + s)) o := by
    intro s o hs ho
    unfold f_X3_areExcluding
    rw [h.2.2.2.2.2.2.1 s hs, isIn_c ho]
  have I : ∀ (s d i a j : Nat), l_X3_countExcludingPairs_14 x s j d i a = a + cN (fun k => f_X3_areExcluding x s (i + k)) d := by
    intro s d
    induction d with
    | zero => intro i a j; rfl
    | succ d ih =>
      intro i a j
      rw [l_X3_countExcludingPairs_14, ih, ih, show d + 1 = 1 + d by omega, cN_add 1 d]
      have e : (fun k => f_X3_areExcluding x s (i + (1 + k))) = (fun k => f_X3_areExcluding x s (i + 1 + k)) := by
        funext k; rw [show i + (1 + k) = i + 1 + k by omega]
      rw [e]
      have e1 : cN (fun k => f_X3_areExcluding x s (i + k)) 1 = (if f_X3_areExcluding x s i = true then 1 else 0) := by
        show 0 + (if f_X3_areExcluding x s (i + 0) = true then 1 else 0) = _
        simp
      rw [e1]
      split <;> omega
  have L1 : ∀ (d i a : Nat), l_X3_countExcludingPairs_4 x d i a + cT (fun s c => f_X3_areExcluding x s c) (fun s => s) i = a + cT (fun s c => f_X3_areExcluding x s c) (fun s => s) (i + d) := by
    intro d
    induction d with
    | zero => intro i a; rfl
    | succ d ih =>
      intro i a
      rw [l_X3_countExcludingPairs_4, I]
      have := ih (i + 1) (a + cN (fun k => f_X3_areExcluding x i (0 + k)) i)
      rw [cT] at this
      have e : (fun k => f_X3_areExcluding x i (0 + k)) = (fun k => f_X3_areExcluding x i k) := by funext k; rw [Nat.zero_add]
      rw [e] at this ⊢
      rw [show i + (d + 1) = i + 1 + d by omega]
      omega
  have L2 : ∀ (d i n : Nat), i + d = nn → l_X6_pairs_4 y nn mm kk d i (nI (n + cT (fun s j => bt (oR y (77 + s)) j) (fun _ => 7) i)) = nI (n + cT (fun s j => bt (oR y (77 + s)) j) (fun _ => 7) nn) := by
    intro d
    induction d with
    | zero => intro i n hid; rw [show i = nn by omega]; rfl
    | succ d ih =>
      intro i n hid
      have := ih (i + 1) n (by omega)
      rw [cT] at this
      rw [l_X6_pairs_4, many_c]
      rw [show nI (n + cT (fun s j => bt (oR y (77 + s)) j) (fun _ => 7) i) + nI (cN (bt (oR y (77 + i))) 7) = nI (n + (cT (fun s j => bt (oR y (77 + s)) j) (fun _ => 7) i + cN (bt (oR y (77 + i))) 7)) from by rw [nI_add]; exact congrArg nI (Nat.add_assoc _ _ _)]
      exact this
  have hsym : ∀ s j, s < nn → j < nn → bt (oR y (77 + s)) j = bt (oR y (77 + j)) s := by
    intro s j hs hj
    cases e1 : bt (oR y (77 + s)) j with
    | true => exact (h.2.2.2.2.2.2.2 s j (by omega) (by omega) e1).2.2.2.symm
    | false =>
      cases e2 : bt (oR y (77 + j)) s with
      | false => rfl
      | true => rw [(h.2.2.2.2.2.2.2 j s (by omega) (by omega) e2).2.2.2] at e1; exact absurd e1 (by decide)
  have hself : ∀ s, s < nn → bt (oR y (77 + s)) s = false := by
    intro s hs
    cases e1 : bt (oR y (77 + s)) s with
    | false => rfl
    | true => exact absurd rfl (h.2.2.2.2.2.2.2 s s (by omega) (by omega) e1).2.2.1
  have hps := pair_sum (e := fun s j => bt (oR y (77 + s)) j) (N := nn) hsym hself nn (Nat.le_refl _)
  have h7 : ∀ k, k ≤ nn → cT (fun s j => bt (oR y (77 + s)) j) (fun _ => 7) k = cT (fun s j => bt (oR y (77 + s)) j) (fun _ => nn) k := by
    intro k
    induction k with
    | zero => intro _; rfl
    | succ k ih =>
      intro hk
      rw [cT, cT, ih (by omega)]
      congr 1
      have := cN_add (P := bt (oR y (77 + k))) nn (7 - nn)
      rw [show nn + (7 - nn) = 7 by omega] at this
      rw [this, cN_0 (P := fun i => bt (oR y (77 + k)) (nn + i)) (fun i hi => ?_)]
      · rfl
      · cases e1 : bt (oR y (77 + k)) (nn + i) with
        | false => rfl
        | true => exact absurd (h.2.2.2.2.2.2.2 k (nn + i) (by omega) (by omega) e1).2.1 (by omega)
  have hle : ∀ k, k ≤ nn → cT (fun s j => bt (oR y (77 + s)) j) (fun s => s) k ≤ 7 * k := by
    intro k
    induction k with
    | zero => intro _; exact Nat.le_refl _
    | succ k ih =>
      intro hk
      have := cN_le (P := fun j => bt (oR y (77 + k)) j) k
      rw [cT]
      have := ih (by omega)
      omega
  have a1 := L1 nn 0 0
  have a2 := L2 nn 0 0 (by omega)
  have a3 : cT (fun s c => f_X3_areExcluding x s c) (fun s => s) nn = cT (fun s j => bt (oR y (77 + s)) j) (fun s => s) nn := cT_cg (fun s c hs hc => hA s c hs (by omega))
  have hb := hle nn (Nat.le_refl _)
  unfold f_X3_countExcludingPairs f_X6_pairs
  rw [h.1.2.2.1]
  have a4 : l_X3_countExcludingPairs_4 x nn 0 0 = cT (fun s j => bt (oR y (77 + s)) j) (fun s => s) nn := by
    have z0 : cT (fun s c => f_X3_areExcluding x s c) (fun s => s) 0 = 0 := rfl
    rw [show 0 + nn = nn from Nat.zero_add nn, a3, z0] at a1
    omega
  rw [a4]
  have a5 : l_X6_pairs_4 y nn mm kk nn 0 (nI 0) = nI (2 * cT (fun s j => bt (oR y (77 + s)) j) (fun s => s) nn) := by
    rw [h7 nn (Nat.le_refl _), hps] at a2
    exact a2.trans (by rw [Nat.zero_add])
  rw [a5]
  exact (half _ (by omega)).symm
theorem wt0 {k : Nat} : f_X1_weightOf u k (nI 0) = nI 0 := by
  have L : ∀ (d i : Nat) (a : Int32), i + d = 7 → l_X1_weightOf_5 u k (nI 0) d i a = a := by
    intro d
    induction d with
    | zero => intro i a _; rfl
    | succ d ih =>
      intro i a hid
      rw [l_X1_weightOf_5, isIn_c (by omega), if_neg (by rw [show bt (nI 0) i = false from b_0 i]; decide)]
      exact ih _ _ (by omega)
  exact L 7 0 _ rfl
theorem wt1 {k s : Nat} (hs : s < 7) : f_X1_weightOf u k (nI (2 ^ s)) = kW u k s := by
  have L : ∀ (d i : Nat) (a : Int32), i + d = 7 → l_X1_weightOf_5 u k (nI (2 ^ s)) d i a = (if i ≤ s then a + kW u k s else a) := by
    intro d
    induction d with
    | zero => intro i a hid; rw [l_X1_weightOf_5, if_neg (by omega)]
    | succ d ih =>
      intro i a hid
      rw [l_X1_weightOf_5, isIn_c (by omega), bt_pow s (by omega) i (by omega)]
      by_cases e : i = s
      · rw [if_pos (by simp [e]), ih _ _ (by omega), if_neg (by omega), if_pos (by omega), e]
      · rw [if_neg (by simp [e]), ih _ _ (by omega)]
        by_cases q : i ≤ s
        · rw [if_pos q, if_pos (by omega)]
        · rw [if_neg q, if_neg (by omega)]
  unfold f_X1_weightOf
  rw [L 7 0 _ rfl, if_pos (Nat.zero_le _)]
  exact Int32.zero_add _
theorem e_judge (h : RelS nn mm kk so x u (oR y)) (plan : Int32) : f_X5_judge w so x u plan = f_X6_judge y nn mm kk plan := by
  have hn := h.1.1.1
  have hp7 := pw7 hn
  unfold f_X5_judge f_X6_judge
  rw [show f_X3_isPlan x plan = cl (2 ^ pN x) plan from rfl, show f_X6_noPlan y nn mm kk plan = cm (2 ^ nn) plan from rfl, h.1.1.2.2.1]
  rcases cl_in (show 2 ^ nn < 2 ^ 31 by omega) plan with ⟨p, hp, rfl, e1, e2⟩ | ⟨e1, e2⟩
  · rw [e1, e2, if_pos tt, if_neg ff]
    unfold f_X3_verdictOf
    rw [bc_many p (by omega), h.1.2.1.2.2, rp_excl (kk := kk) h.1]
    by_cases c : f_X6_missed y nn mm kk (nI p) < 0
    · rw [if_pos c, if_pos ((rp_reaches h.1 _).mpr c)]
    · rw [if_neg c, if_neg (fun q => c ((rp_reaches h.1 _).mp q))]
  · rw [e1, e2, if_neg ff, if_pos tt]
theorem e_plan (h : RelS nn mm kk so x u (oR y)) (plan what : Int32) : f_X5_plan w so x u plan what = f_X6_plan y nn mm kk plan what := by
  have hn := h.1.1.1
  have hm := h.1.1.2.1
  have hp7 := pw7 hn
  unfold f_X5_plan f_X6_plan
  rw [show f_X3_isPlan x plan = cl (2 ^ pN x) plan from rfl, show f_X6_noPlan y nn mm kk plan = cm (2 ^ nn) plan from rfl, h.1.1.2.2.1]
  rcases cl_in (show 2 ^ nn < 2 ^ 31 by omega) plan with ⟨p, hp, rfl, e1, e2⟩ | ⟨e1, e2⟩
  · rw [e1, e2, if_pos tt, if_neg ff]
    unfold f_X6_in
    rw [rs_guess h hp, rk_missed h.2.1 hn hm hp, rp_prices (kk := kk) h.1]
    by_cases c1 : what < 0
    · rw [if_pos c1, if_pos (show what < nI 0 from c1), if_neg ff]
    · rw [if_neg c1, if_neg (show ¬ what < nI 0 from c1)]
      by_cases c2 : nI 4 < what
      · rw [if_pos c2, if_pos c2, if_neg ff]
      · rw [if_neg c2, if_neg c2, if_pos tt]
        by_cases c : f_X6_missed y nn mm kk (nI p) < 0
        · rw [if_pos ((rp_reaches h.1 _).mpr c), if_pos c, rp_cost (kk := kk) h.1 (missed_server hn hm c), rp_routes (kk := kk) h.1 (missed_server hn hm c)]
          rw [if_pos ((rp_reaches h.1 _).mpr c), if_pos c]
        · rw [if_neg (fun q => c ((rp_reaches h.1 _).mp q)), if_neg c, if_neg (fun q => c ((rp_reaches h.1 _).mp q)), if_neg c]
  · rw [e1, e2, if_neg ff, if_pos tt]
theorem e_serves (h : RelS nn mm kk so x u (oR y)) (plan customer : Int32) : f_X5_serves w so x u plan customer = f_X6_serves y nn mm kk plan customer := by
  have hn := h.1.1.1
  have hm := h.1.1.2.1
  have hp7 := pw7 hn
  unfold f_X5_serves f_X6_serves
  rw [show f_X3_isPlan x plan = cl (2 ^ pN x) plan from rfl, show f_X6_noPlan y nn mm kk plan = cm (2 ^ nn) plan from rfl, h.1.1.2.2.1]
  rw [show f_X3_isCustomer x customer = cl (pM x) customer from rfl, show f_X6_noCustomer y nn mm kk customer = cm mm customer from rfl, h.1.1.2.2.2]
  rcases cl_in (show 2 ^ nn < 2 ^ 31 by omega) plan with ⟨p, hp, rfl, e1, e2⟩ | ⟨e1, e2⟩
  · rw [e1, e2, if_pos tt, if_neg ff]
    rcases cl_in (show mm < 2 ^ 31 by omega) customer with ⟨c, hc, rfl, e3, e4⟩ | ⟨e3, e4⟩
    · rw [e3, e4, if_pos tt, if_neg ff, tn_nI (show c < 2 ^ 31 by omega)]
      rcases rp_cheap (kk := kk) (plan := nI p) h.1 hc with ⟨a, b⟩ | ⟨a, j, hj, b⟩
      · rw [a, b, if_pos rfl]
      · rw [a, b, if_neg (fun e => ?_)]
        have := nI_pos (show j < 2 ^ 31 by omega)
        rw [e] at this; exact absurd (by decide) this
    · rw [e3, e4, if_neg ff, if_pos tt]
  · rw [e1, e2, if_neg ff, if_pos tt]
theorem e_cut (h : RelS nn mm kk so x u (oR y)) (cut what : Int32) : f_X5_cut w so x u cut what = f_X6_cut y nn mm kk cut what := by
  have hn := h.1.1.1
  have hm := h.1.1.2.1
  have hk := h.2.1.1
  unfold f_X5_cut f_X6_cut
  rw [show f_X1_isCut u cut = cl (kA u) cut from rfl, show f_X6_noCut y nn mm kk cut = cm kk cut from rfl, h.2.1.2.1]
  rcases cl_in (show kk < 2 ^ 31 by omega) cut with ⟨k, hkk, rfl, e1, e2⟩ | ⟨e1, e2⟩
  · rw [e1, e2, if_pos tt, if_neg ff, tn_nI (show k < 2 ^ 31 by omega), rk_ray h.2.1 hm hkk, rs_break h hkk, rs_tight h hkk]
    have h1 : f_X6_isRay y nn mm kk k = true → kC u k = oR y (84 + 9 * k) ∧ kS u k = nI 1 := by
      intro c
      rcases h.2.1.2.2.2 k hkk with ⟨c, hc, hq, hC, hS, -⟩ | ⟨hq, -⟩
      · exact ⟨hC.trans hq.symm, hS⟩
      · unfold f_X6_isRay at c; rw [hq, if_pos (by decide)] at c; exact absurd c (by decide)
    by_cases c : f_X6_isRay y nn mm kk k = true
    · obtain ⟨a1, a2⟩ := h1 c
      simp only [if_pos c, a1, a2]
    · have a2 : kS u k = f_X6_valueOf y nn mm kk k (nI 0) := by
        rw [← rk_value h.2.1 hn hm hkk (Nat.pow_pos (by decide)) (by simpa using c)]
        unfold f_X1_valueOf
        rw [wt0]
        exact (Int32.sub_zero _).symm
      simp only [if_neg c, a2]
  · rw [e1, e2, if_neg ff, if_pos tt]
theorem e_weight (h : RelS nn mm kk so x u (oR y)) (cut site : Int32) : f_X5_weight w so x u cut site = f_X6_weight y nn mm kk cut site := by
  have hn := h.1.1.1
  have hm := h.1.1.2.1
  have hk := h.2.1.1
  unfold f_X5_weight f_X6_weight
  rw [show f_X1_isCut u cut = cl (kA u) cut from rfl, show f_X6_noCut y nn mm kk cut = cm kk cut from rfl, h.2.1.2.1]
  rw [show f_X3_isSite x site = cl (pN x) site from rfl, show f_X6_noSite y nn mm kk site = cm nn site from rfl, h.1.1.2.2.1]
  rcases cl_in (show kk < 2 ^ 31 by omega) cut with ⟨k, hkk, rfl, e1, e2⟩ | ⟨e1, e2⟩
  · rw [e1, e2, if_pos tt, if_neg ff]
    rcases cl_in (show nn < 2 ^ 31 by omega) site with ⟨s, hs, rfl, e3, e4⟩ | ⟨e3, e4⟩
    · rw [e3, e4, if_pos tt, if_neg ff, tn_nI (show k < 2 ^ 31 by omega), tn_nI (show s < 2 ^ 31 by omega)]
      by_cases c : f_X6_isRay y nn mm kk k = true
      · rw [if_pos c, ← wt1 (show s < 7 by omega)]
        exact rk_asked h.2.1 hn hm hkk (Nat.pow_lt_pow_right (by decide) hs) c
      · rw [if_neg c, rk_wt]
        rcases h.2.1.2.2.2 k hkk with ⟨c2, hc, hq, -⟩ | ⟨-, -, -, hW, -⟩
        · exfalso
          apply c
          unfold f_X6_isRay
          rw [hq, if_neg (nI_pos (by omega))]
        · exact hW s hs
    · rw [e3, e4, if_neg ff, if_pos tt]
  · rw [e1, e2, if_neg ff, if_pos tt]
theorem e_value (h : RelS nn mm kk so x u (oR y)) (cut plan : Int32) : f_X5_value w so x u cut plan = f_X6_value y nn mm kk cut plan := by
  have hn := h.1.1.1
  have hm := h.1.1.2.1
  have hk := h.2.1.1
  have hp7 := pw7 hn
  unfold f_X5_value f_X6_value
  rw [show f_X1_isCut u cut = cl (kA u) cut from rfl, show f_X6_noCut y nn mm kk cut = cm kk cut from rfl, h.2.1.2.1]
  rw [show f_X3_isPlan x plan = cl (2 ^ pN x) plan from rfl, show f_X6_noPlan y nn mm kk plan = cm (2 ^ nn) plan from rfl, h.1.1.2.2.1]
  rcases cl_in (show kk < 2 ^ 31 by omega) cut with ⟨k, hkk, rfl, e1, e2⟩ | ⟨e1, e2⟩
  · rw [e1, e2, if_pos tt, if_neg ff]
    rcases cl_in (show 2 ^ nn < 2 ^ 31 by omega) plan with ⟨p, hp, rfl, e3, e4⟩ | ⟨e3, e4⟩
    · rw [e3, e4, if_pos tt, if_neg ff, tn_nI (show k < 2 ^ 31 by omega), rk_ray h.2.1 hm hkk]
      by_cases c : f_X6_isRay y nn mm kk k = true
      · rw [if_pos c, if_pos c]
        exact rk_asked h.2.1 hn hm hkk hp c
      · rw [if_neg c, if_neg c, rk_value h.2.1 hn hm hkk hp (by simpa using c)]
        exact Int32.add_comm _ _
    · rw [e3, e4, if_neg ff, if_pos tt]
  · rw [e1, e2, if_neg ff, if_pos tt]
theorem best_s (h : RelS nn mm kk so x u (oR y)) : (uB so = (-1) ∧ oR y 4 = (-5)) ∨ ∃ p, p < 2 ^ nn ∧ uB so = nI p ∧ oR y 4 = nI p ∧ f_X3_costOf x (nI p) = f_X6_prices y nn mm kk (nI p) + f_X6_routes y nn mm kk (nI p) := by
  rcases h.2.2.2 with q | ⟨p, hp, a, b, hall⟩
  · exact Or.inl q
  · exact Or.inr ⟨p, hp, a, b, rp_cost h.1 (fun c hc => by rw [server_lt h.1.1.1]; exact fun q => q (hall c hc))⟩
theorem m1_ne {p n : Nat} (hn : n ≤ 7) (hp : p < 2 ^ n) : ¬ nI p = (-1) := by
  have := pw7 hn
  intro e
  have h := nI_pos (show p < 2 ^ 31 by omega)
  rw [e] at h; exact absurd (by decide) h
theorem p_pos {p n : Nat} (hn : n ≤ 7) (hp : p < 2 ^ n) : ¬ nI p < 0 := by
  have := pw7 hn
  exact nI_pos (by omega)
theorem e_master (h : RelS nn mm kk so x u (oR y)) (what : Int32) : f_X5_master w so x u what = f_X6_master y nn mm kk what := by
  have hn := h.1.1.1
  have hm := h.1.1.2.1
  have hb := best_s h
  have hma := rs_master h
  unfold f_X5_master f_X6_master
  by_cases w0 : what = 0
  · subst w0
    rw [if_pos rfl, if_pos (by decide), if_neg (by decide), if_neg (by decide)]
    unfold f_X5_planOrNone
    rcases hma with ⟨a, b⟩ | ⟨p, hp, a, b⟩
    · rw [a, b, if_pos rfl, if_pos (by decide)]
    · rw [a, b, if_neg (m1_ne hn hp), if_neg (p_pos hn hp), if_neg (show ¬ nI 1 < 0 by decide), if_pos rfl]
  · rw [if_neg w0]
    by_cases w1 : what = nI 1
    · subst w1
      rw [if_pos rfl, if_pos (by decide), if_neg (by decide), if_neg (by decide)]
      unfold f_X5_lowerBound
      rcases hma with ⟨a, b⟩ | ⟨p, hp, a, b⟩
      · rw [a, b, if_pos rfl, if_pos (by decide)]
      · rw [a, b, if_neg (m1_ne hn hp), if_neg (p_pos hn hp), if_neg (show ¬ nI 1 < nI 1 by decide), if_neg (show ¬ nI 1 = 0 by decide), if_pos rfl, rs_guess h hp]
    · rw [if_neg w1]
      by_cases w2 : what = nI 2
      · subst w2
        rw [if_pos rfl, if_pos (by decide), if_pos rfl, if_pos (show nI 1 < nI 2 by decide)]
        unfold f_X5_planOrNone
        rcases hb with ⟨a, b⟩ | ⟨p, hp, a, b, -⟩
        · rw [a, b, if_pos rfl, if_pos (by decide)]
        · rw [a, b, if_neg (m1_ne hn hp), if_neg (p_pos hn hp), if_neg (show ¬ nI 2 = 0 by decide), if_neg (show ¬ nI 2 = nI 1 by decide)]
      · rw [if_neg w2]
        by_cases w3 : what = nI 3
        · subst w3
          rw [if_pos rfl, if_pos (by decide), if_neg (by decide), if_pos rfl, if_pos (show nI 1 < nI 3 by decide)]
          unfold f_X5_costOrNone
          rcases hb with ⟨a, b⟩ | ⟨p, hp, a, b, hc⟩
          · rw [a, b, if_pos rfl, if_pos (by decide)]
          · rw [a, b, if_neg (m1_ne hn hp), if_neg (p_pos hn hp), if_neg (show ¬ nI 3 = 0 by decide), if_neg (show ¬ nI 3 = nI 1 by decide), hc]
        · rw [if_neg w3]
          by_cases w4 : what = nI 4
          · subst w4
            rw [if_pos rfl, if_pos (by decide), if_neg (by decide), if_neg (by decide)]
            unfold f_X5_gap
            rcases hma with ⟨a, b⟩ | ⟨p, hp, a, b⟩
            · rw [a, b, if_pos rfl, if_pos (by decide)]
            · rw [a, b, if_neg (m1_ne hn hp), if_neg (p_pos hn hp), if_pos (show nI 1 < nI 4 by decide)]
              rcases hb with ⟨a2, b2⟩ | ⟨p2, hp2, a2, b2, hc⟩
              · rw [a2, b2, if_pos rfl, if_pos (by decide)]
              · rw [a2, b2, if_neg (m1_ne hn hp2), if_neg (p_pos hn hp2), if_neg (show ¬ nI 4 = 0 by decide), if_neg (show ¬ nI 4 = nI 1 by decide), hc, rs_guess h hp]
          · have hno := sw_out4 w0 w1 w2 w3 w4
            rw [if_neg w4, in_no (by decide) (by decide) (by omega), if_neg ff]
theorem e_byAll (h : RelS nn mm kk so x u (oR y)) (what : Int32) : f_X5_byAll w so x u what = f_X6_byAll y nn mm kk what := by
  have hn := h.1.1.1
  obtain ⟨h1, h2⟩ := rp_byAll (kk := kk) h.1 what
  unfold f_X5_byAll f_X6_byAll
  by_cases w0 : what = 0
  · subst w0
    rw [if_pos rfl, if_pos (by decide), if_neg (by decide)]
    unfold f_X5_planOrNone
    rcases h1 with ⟨a, b⟩ | ⟨p, hp, a, b, -⟩
    · rw [a, b, if_pos rfl, if_pos (by decide)]
    · rw [a, b, if_neg (m1_ne hn hp), if_neg (p_pos hn hp), if_pos rfl]
  · rw [if_neg w0]
    by_cases w1 : what = nI 1
    · subst w1
      rw [if_pos rfl, if_pos (by decide), if_neg (by decide)]
      unfold f_X5_costOrNone
      rcases h1 with ⟨a, b⟩ | ⟨p, hp, a, b, hg⟩
      · rw [a, b, if_pos rfl, if_pos (by decide)]
      · rw [a, b, if_neg (m1_ne hn hp), if_neg (p_pos hn hp), if_neg (show ¬ nI 1 = 0 by decide), hg]
    · rw [if_neg w1]
      by_cases w2 : what = nI 2
      · subst w2
        rw [if_pos rfl, if_pos (by decide), if_pos rfl, h2]
      · have hno := sw_out2 w0 w1 w2
        rw [if_neg w2, in_no (by decide) (by decide) (by omega), if_neg ff]
theorem e_count (h : RelS nn mm kk so x u (oR y)) {ho : HoC} {tx : TxC} (h8 : hA ho = oS y) (h9 : tL tx = oL y) (what : Int32) : f_X5_count w so x u ho tx what = f_X6_count y nn mm kk what := by
  unfold f_X5_count f_X6_count
  rw [h.1.1.2.2.1, h.1.1.2.2.2, rp_routesN (kk := kk) h.1, h.1.2.1.2.2, rp_pairs (kk := kk) h.1, h.2.1.2.1, rk_rays h.2.1 h.1.1.2.1, h.2.2.1, h8, h9]
end RelE
