/-! ===== cuts that are added; a step ===== -/
section RelJ
variable {nn mm kk : Nat} {z z1 : SoC} {x x1 : PlC} {u u1 : CuC} {y : MoC} {w : ZoC} {ho : HoC} {sg : Nat → Nat} {hs : Nat → StC} {nu : Nat → Int32}
theorem ar_31 {c : Nat} : ∀ (d i : Nat) (v : Nat → Nat → Int32) (k s : Nat), l_X1_appendRay_31 u x c d i v k s = if k = kA u ∧ i ≤ s ∧ s < i + d then (if f_X3_hasRoute x s c = true then nI 1 else nI 0) else v k s := by
  intro d
  induction d with
  | zero => intro i v k s; rw [l_X1_appendRay_31, if_neg (by omega)]
  | succ d ih =>
    intro i v k s
    have key : ∀ q : Int32, q = (if f_X3_hasRoute x i c = true then nI 1 else nI 0) → l_X1_appendRay_31 u x c d (i + 1) (va_up v (kA u) (upd (v (kA u)) i q)) k s = if k = kA u ∧ i ≤ s ∧ s < i + (d + 1) then (if f_X3_hasRoute x s c = true then nI 1 else nI 0) else v k s := by
      intro q hq
      rw [ih]
      by_cases c1 : k = kA u ∧ i + 1 ≤ s ∧ s < i + 1 + d
      · rw [if_pos c1, if_pos (show k = kA u ∧ i ≤ s ∧ s < i + (d + 1) by omega)]
      · rw [if_neg c1]
        by_cases e : k = kA u
        · rw [e, va_up_self]
          by_cases e2 : s = i
          · rw [e2, upd_at, if_pos (by omega), hq]
          · rw [upd_ne _ _ e2, if_neg (by omega)]
        · rw [va_up_ne _ _ e, if_neg (by omega)]
    rw [l_X1_appendRay_31]
    by_cases c1 : f_X3_hasRoute x i c = true
    · rw [if_pos c1]; exact key _ (if_pos c1).symm
    · rw [if_neg c1]; exact key _ (if_neg c1).symm
theorem ap_70 : ∀ (d i : Nat) (v : Nat → Nat → Int32) (k s : Nat), l_X1_appendPriceCut_70 u x nu d i v k s = if k = kA u ∧ i ≤ s ∧ s < i + d then f_X1_savedBy x nu s else v k s := by
  intro d
  induction d with
  | zero => intro i v k s; rw [l_X1_appendPriceCut_70, if_neg (by omega)]
  | succ d ih =>
    intro i v k s
    rw [l_X1_appendPriceCut_70, ih]
    by_cases c1 : k = kA u ∧ i + 1 ≤ s ∧ s < i + 1 + d
    · rw [if_pos c1, if_pos (by omega)]
    · rw [if_neg c1]
      by_cases e : k = kA u
      · rw [e, va_up_self]
        by_cases e2 : s = i
        · rw [e2, upd_at, if_pos (by omega)]
        · rw [upd_ne _ _ e2, if_neg (by omega)]
      · rw [va_up_ne _ _ e, if_neg (by omega)]
theorem ap_31 {r : Nat → Int32} {q : Nat} (hd : ∀ c, c < mm → pD x c = r (13 + c)) (hu : ∀ c, c < mm → nu c = r (q + 1 + c)) : ∀ (d i : Nat) (v : Nat → Int32), i + d = mm → l_X1_appendPriceCut_31 u x nu d i v (kA u) = sU r q d i (v (kA u)) ∧ ∀ k, k ≠ kA u → l_X1_appendPriceCut_31 u x nu d i v k = v k := by
  intro d
  induction d with
  | zero => intro i v _; exact ⟨rfl, fun _ _ => rfl⟩
  | succ d ih =>
    intro i v hid
    obtain ⟨g1, g2⟩ := ih (i + 1) (upd v (kA u) (v (kA u) + pD x i * nu i)) (by omega)
    rw [upd_at] at g1
    refine ⟨?_, fun k hk => ?_⟩
    · rw [l_X1_appendPriceCut_31, g1, sU, hd i (by omega), hu i (by omega)]
    · rw [l_X1_appendPriceCut_31, g2 k hk, upd_ne _ _ hk]
theorem sv_5 {r : Nat → Int32} {q s : Nat} (hd : ∀ c, c < mm → pD x c = r (13 + c)) (hu : ∀ c, c < mm → nu c = r (q + 1 + c)) (hr : ∀ c, c < mm → pR x s c = r (21 + 8 * s + c)) : ∀ (d i : Nat) (a : Int32), i + d = mm → l_X1_savedBy_5 x nu s d i a = sW r q s d i a := by
  intro d
  induction d with
  | zero => intro i a _; rfl
  | succ d ih => intro i a hid; rw [l_X1_savedBy_5, sW, hd i (by omega), hu i (by omega), hr i (by omega)]; exact ih _ _ (by omega)
/-- a price cut more: the class's and the reference's rows -/
theorem RelK.price {r r' : Nat → Int32} (hk : RelK nn mm kk u r) (hP : RelP nn mm x r') (hkk : kk < 40) (e1 : ∀ j, 6 ≤ j → j < 84 + 9 * kk → r' j = r j) (e3 : r' 3 = nI (kk + 1)) (eq : r' (84 + 9 * kk) = (-5)) (hu : ∀ c, c < mm → nu c = r' (85 + 9 * kk + c) ∧ rB (r' (85 + 9 * kk + c)) 0 99) : RelK nn mm (kk + 1) (f_X1_appendPriceCut u x nu).2 r' ∧ (f_X1_appendPriceCut u x nu).1 = nI kk := by
  have hn := hP.1.1
  have hm := hP.1.2.1
  obtain ⟨k1, k2, k3, k4⟩ := hk
  have ea : f_X1_appendPriceCut u x nu = (nI (kA u), mkC (kA u + 1) (upd (kC u) (kA u) (-1)) (l_X1_appendPriceCut_31 u x nu (pM x) 0 (upd (kS u) (kA u) (nI 0))) (l_X1_appendPriceCut_70 u x nu (pN x) 0 (kW u))) := if_pos (by omega)
  rw [ea]
  have hu2 : ∀ c, c < mm → nu c = r' (84 + 9 * kk + 1 + c) := fun c hc => by rw [(hu c hc).1, show 85 + 9 * kk + c = 84 + 9 * kk + 1 + c by omega]
  have hd2 : ∀ c, c < mm → pD x c = r' (13 + c) := fun c hc => (hP.2.2.2.1 c hc).1
  obtain ⟨s1, s2⟩ := ap_31 (u := u) (q := 84 + 9 * kk) hd2 hu2 mm 0 (upd (kS u) (kA u) (nI 0)) (by omega)
  rw [upd_at] at s1
  refine ⟨⟨by omega, by show kA u + 1 = kk + 1; rw [k2], e3, fun k hk => ?_⟩, by show nI (kA u) = nI kk; rw [k2]⟩
  show CutR nn mm (upd (kC u) (kA u) (-1) k) (l_X1_appendPriceCut_31 u x nu (pM x) 0 (upd (kS u) (kA u) (nI 0)) k) (l_X1_appendPriceCut_70 u x nu (pN x) 0 (kW u) k) r' (84 + 9 * k)
  by_cases e : k = kA u
  · right
    rw [e, hP.1.2.2.2, upd_at, s1]
    have e9 : 84 + 9 * kA u = 84 + 9 * kk := by rw [k2]
    rw [e9]
    refine ⟨eq, rfl, rfl, fun s hs => ?_, fun c hc => ?_⟩
    · rw [ap_70, if_pos ⟨rfl, by omega, by rw [hP.1.2.2.1]; omega⟩]
      unfold f_X1_savedBy
      rw [hP.1.2.2.2]
      exact sv_5 hd2 hu2 (fun c hc => (hP.2.2.2.2.1 s c hs hc).1) mm 0 _ (by omega)
    · rw [show 84 + 9 * kk + 1 + c = 85 + 9 * kk + c by omega]; exact (hu c hc).2
  · have hlt : k < kk := by omega
    refine (k4 k hlt).cg hm (fun i hi => e1 _ (by omega) (by omega)) (fun i hi => e1 _ (by omega) (by omega)) (fun s i hs hi => e1 _ (by omega) (by omega)) (upd_ne _ _ e) ?_ (fun s hs => ?_)
    · rw [hP.1.2.2.2, s2 k e, upd_ne _ _ e]
    · rw [ap_70, if_neg (by omega)]
theorem RelK.ray {r r' : Nat → Int32} {j : Nat} (hk : RelK nn mm kk u r) (hP : RelP nn mm x r') (hkk : kk < 40) (e1 : ∀ j, 6 ≤ j → j < 84 + 9 * kk → r' j = r j) (e3 : r' 3 = nI (kk + 1)) (hj : j < mm) (eq : r' (84 + 9 * kk) = nI j) : RelK nn mm (kk + 1) (f_X1_appendRay u x j).2 r' := by
  have hn := hP.1.1
  have hm := hP.1.2.1
  obtain ⟨k1, k2, k3, k4⟩ := hk
  have ea : f_X1_appendRay u x j = (nI (kA u), mkC (kA u + 1) (upd (kC u) (kA u) (nI j)) (upd (kS u) (kA u) (nI 1)) (l_X1_appendRay_31 u x j (pN x) 0 (kW u))) := if_pos (by omega)
  rw [ea]
  refine ⟨by omega, by show kA u + 1 = kk + 1; rw [k2], e3, fun k hk => ?_⟩
  show CutR nn mm (upd (kC u) (kA u) (nI j) k) (upd (kS u) (kA u) (nI 1) k) (l_X1_appendRay_31 u x j (pN x) 0 (kW u) k) r' (84 + 9 * k)
  by_cases e : k = kA u
  · left
    rw [e, upd_at, upd_at]
    have e9 : 84 + 9 * kA u = 84 + 9 * kk := by rw [k2]
    rw [e9]
    refine ⟨j, hj, eq, rfl, rfl, fun s hs => ?_⟩
    rw [ar_31, if_pos ⟨rfl, by omega, by rw [hP.1.2.2.1]; omega⟩]
    have hR : f_X3_hasRoute x s j = decide (r' (21 + 8 * s + j) < nI 100) := rp_hasR (y := mkM r' r' r' r' 0 0 r' 0 0 r') hP hs hj
    rw [hR]
    by_cases q : r' (21 + 8 * s + j) < nI 100
    · rw [if_pos q, if_pos (decide_eq_true q)]
    · rw [if_neg q, if_neg (by simp [q])]
  · have hlt : k < kk := by omega
    refine (k4 k hlt).cg hm (fun i hi => e1 _ (by omega) (by omega)) (fun i hi => e1 _ (by omega) (by omega)) (fun s i hs hi => e1 _ (by omega) (by omega)) (upd_ne _ _ e) (upd_ne _ _ e) (fun s hs => ?_)
    rw [ar_31, if_neg (by omega)]
theorem nu_126 : ∀ (d i : Nat) (v : Nat → Int32) (c : Nat), l_X4_makeStep_126 z x u nu d i v c = if i ≤ c ∧ c < i + d then f_X3_leastRoutePrice x (f_X4_findMasterPlan z x u) c else v c := by
  intro d
  induction d with
  | zero => intro i v c; rw [l_X4_makeStep_126, if_neg (by omega)]
  | succ d ih =>
    intro i v c
    rw [l_X4_makeStep_126, ih]
    by_cases q : i + 1 ≤ c ∧ c < i + 1 + d
    · rw [if_pos q, if_pos (by omega)]
    · rw [if_neg q]
      by_cases e : c = i
      · rw [e, upd_at, if_pos (by omega)]
      · rw [upd_ne _ _ e, if_neg (by omega)]
/-- what a step leaves: equal answers, related contents -/
def S4 (nn mm : Nat) (x : PlC) (a : Int32 × SoC × CuC × (Nat → Int32)) (b : Int32 × MoC) : Prop := a.1 = b.1 ∧ ∃ k, RelS nn mm k a.2.1 x a.2.2.1 (oR b.2)
theorem rpc {plan : Int32} (h : RelP nn mm x (oR y)) (hs : ∀ c, c < mm → ¬ f_X6_server y nn mm kk plan c < 0) {c : Nat} (hc : c < mm) : rB (f_X3_leastRoutePrice x plan c) 0 99 := by
  have h1 := hs c hc
  have h2 := rp_least_s h hc h1
  have h3 := server_n h.1.1 h1
  rcases rp_least (kk := kk) (plan := plan) h hc with ⟨ha, -⟩ | ⟨-, -, -, hm, hlt, -⟩
  · exact absurd ha h1
  · have hb := (h.2.2.2.2.1 _ c h3.2 hc).2
    rw [← h2] at hb
    rw [i_lt, t100] at hlt
    exact ⟨hb.1, by omega⟩
theorem RelB.up {so so' : SoC} {r r' : Nat → Int32} (h : RelB nn mm so r) (b1 : uB so' = uB so) (b2 : uT so' = uT so + nI 1) (e4 : r' 4 = r 4) (e5 : r' 5 = r 5 + nI 1) (e2 : ∀ s i, s < nn → i < mm → r' (21 + 8 * s + i) = r (21 + 8 * s + i)) : RelB nn mm so' r' := by
  obtain ⟨h1, h2⟩ := h
  refine ⟨by rw [b2, h1, e5], ?_⟩
  rcases h2 with ⟨a, b⟩ | ⟨p, hp, a, b, c⟩
  · exact Or.inl ⟨b1.trans a, e4.trans b⟩
  · refine Or.inr ⟨p, hp, b1.trans a, e4.trans b, fun cn hc => ?_⟩
    obtain ⟨k, hk, q1, q2⟩ := c cn hc
    exact ⟨k, hk, q1, by rw [e2 k cn hk hc]; exact q2⟩
theorem RelB.best {so so' : SoC} {r r' : Nat → Int32} {p : Nat} (h : RelB nn mm so r) (b2 : uT so' = uT so + nI 1) (e5 : r' 5 = r 5 + nI 1) (hp : p < 2 ^ nn) (b1 : uB so' = nI p) (e4 : r' 4 = nI p) (hr : ∀ c, c < mm → ∃ k, k < nn ∧ bt (nI p) k = true ∧ r' (21 + 8 * k + c) < nI 100) : RelB nn mm so' r' :=
  ⟨by rw [b2, h.1, e5], Or.inr ⟨p, hp, b1, e4, hr⟩⟩
set_option maxRecDepth 100000 in
theorem m_step (h : RelS nn mm kk z x u (oR y)) : S4 nn mm x (f_X4_makeStep z x u nu) (f_X6_makeStep y nn mm kk) := by
  have hn := h.1.1.1
  have hm := h.1.1.2.1
  have hk := h.2.1.1
  have hA := h.2.1.2.1
  have same : ∀ v : Int32, S4 nn mm x (v, z, u, nu) (v, y) := fun v => ⟨rfl, kk, h⟩
  have hnu := nu_126 (z := z) (x := x) (u := u) (nu := nu) (pM x) 0 nu
  unfold f_X4_makeStep f_X6_makeStep
  by_cases c1 : mm = 0
  · rw [if_pos (h.1.1.2.2.2.trans c1), if_pos c1]; exact same _
  · rw [if_neg (fun e => c1 (h.1.1.2.2.2.symm.trans e)), if_neg c1]
    rcases rs_master h with ⟨a, b⟩ | ⟨p, hp, a, b⟩
    · rw [a, b, if_pos rfl, if_pos (by decide)]; exact same _
    · rw [a] at hnu
      have hb4 := best_s h
      have hfull : f_X1_isFull u = decide (kk = 40) := by
        unfold f_X1_isFull
        rw [hA]
        by_cases q : kk = 40
        · rw [if_neg (by omega)]; exact (decide_eq_true q).symm
        · rw [if_pos (by omega)]; exact (decide_eq_false q).symm
      have hMP := b
      rw [a, b, if_neg (m1_ne hn hp), if_neg (p_pos hn hp), hfull]
      rcases rp_missed (kk := kk) h.1 (nI p) with ⟨ml, mr⟩ | ⟨j, hj, ml, mr⟩
      · rw [ml, mr, if_pos rfl, if_pos (show (-5 : Int32) < 0 by decide)]
        have hmiss : f_X6_missed y nn mm kk (nI p) < 0 := by rw [mr]; decide
        have hsv := missed_server hn hm hmiss
        have hsvM : ∀ cn, cn < mm → ¬ f_X6_server y nn mm kk (f_X6_masterPlan y nn mm kk) cn < 0 := by rw [hMP]; exact hsv
        have hcost := rp_cost (kk := kk) h.1 hsv
        have hreach : ∀ r' : Nat → Int32, (∀ s i, s < nn → i < mm → r' (21 + 8 * s + i) = oR y (21 + 8 * s + i)) → ∀ c, c < mm → ∃ k, k < nn ∧ bt (nI p) k = true ∧ r' (21 + 8 * k + c) < nI 100 := by
          intro r' e c hc
          obtain ⟨k, q1, q2, q3⟩ := (missed_lt (kk := kk) hn hm).mp hmiss c hc
          exact ⟨k, q1, q2, by rw [e k c q1 hc]; exact q3⟩
        have pk : ∀ r' : Nat → Int32, (∀ j, j ≠ 3 → j ≠ 4 → j ≠ 5 → j < 84 + 9 * kk → r' j = oR y j) → ¬ kk = 40 → r' 3 = nI (kk + 1) → r' (84 + 9 * kk) = (-5) → (∀ c, c < mm → r' (85 + 9 * kk + c) = oR y (21 + 8 * tn (f_X6_server y nn mm kk (f_X6_masterPlan y nn mm kk) c) + c)) → RelP nn mm x r' ∧ RelK nn mm (kk + 1) (f_X1_appendPriceCut u x (l_X4_makeStep_126 z x u nu (pM x) 0 nu)).2 r' := by
          intro r' lo k40 e3 eq hu
          have hP : RelP nn mm x r' := h.1.cg (fun j hj h3 h4 h5 => lo j h3 h4 h5 (by omega))
          refine ⟨hP, (RelK.price h.2.1 hP (by omega) (fun j h6 hj => lo j (by omega) (by omega) (by omega) hj) e3 eq (fun c hc => ?_)).1⟩
          have e1 : l_X4_makeStep_126 z x u nu (pM x) 0 nu c = f_X3_leastRoutePrice x (nI p) c := (hnu c).trans (if_pos ⟨Nat.zero_le _, by rw [h.1.1.2.2.2]; omega⟩)
          have e2 : r' (85 + 9 * kk + c) = f_X3_leastRoutePrice x (nI p) c := by rw [hu c hc, hMP]; exact (rp_least_s h.1 hc (hsv c hc)).symm
          rw [e1, e2]
          exact ⟨rfl, rpc (kk := kk) h.1 hsv hc⟩
        have hP5 : ∀ v, RelP nn mm x (upd (oR y) 5 v) := fun v => h.1.cg (fun j hj h3 h4 h5 => upd_ne _ _ h5)
        rw [← hcost, rs_guess h hp]
        unfold f_X4_improveBest
        rcases hb4 with ⟨ub, rb⟩ | ⟨p2, hp2, ub, rb, -⟩
        · have eub : ∀ t, uB (mkO (uB z) t) = (-1) := fun t => ub
          simp only [eub, if_pos (rfl : (-1 : Int32) = (-1)), if_pos (show oR y 4 < 0 by rw [rb]; decide)]
          by_cases c4 : f_X3_costOf x (nI p) = f_X6_guess y nn mm kk (nI p)
          · rw [if_pos c4, if_pos c4]
            refine ⟨rfl, kk, ?_⟩
            show RelS nn mm kk _ x u (upd (upd (oR y) 5 (oR y 5 + nI 1)) 4 (nI p))
            have lo : ∀ j, j ≠ 4 → j ≠ 5 → upd (upd (oR y) 5 (oR y 5 + nI 1)) 4 (nI p) j = oR y j := fun j q1 q2 => (upd_ne _ _ q1).trans (upd_ne _ _ q2)
            exact ⟨h.1.cg (fun j hj h3 h4 h5 => lo j h4 h5), h.2.1.cg hn hm (lo 3 (by decide) (by decide)) (fun i hi => lo _ (by omega) (by omega)) (fun s i hs hi => lo _ (by omega) (by omega)) (fun j hj _ => lo _ (by omega) (by omega)), h.2.2.best rfl ((upd_ne _ _ (by decide)).trans (upd_at _ _ _)) hp rfl (upd_at _ _ _) (hreach _ (fun s i hs hi => lo _ (by omega) (by omega)))⟩
          · rw [if_neg c4, if_neg c4]
            by_cases c5 : kk = 40
            · rw [if_pos (decide_eq_true c5), if_pos c5]; exact same _
            · rw [if_neg (by simp [c5]), if_neg c5]
              have hin : ∀ j, 21 ≤ j → j < 77 → (upd (upd (upd (oR y) 5 (oR y 5 + nI 1)) 4 (nI p)) (84 + 9 * kk) (-5)) j = oR y j := fun j h1 h2 => by rw [upd_ne _ _ (show j ≠ 84 + 9 * kk by omega), upd_ne _ _ (show j ≠ 4 by omega), upd_ne _ _ (show j ≠ 5 by omega)]
              have char : ∀ j, l_X6_makeStep_178a y nn mm kk mm 0 (upd (upd (upd (oR y) 5 (oR y 5 + nI 1)) 4 (nI p)) (84 + 9 * kk) (-5)) j = if 85 + 9 * kk + 0 ≤ j ∧ j < 85 + 9 * kk + 0 + mm then oR y (21 + 8 * tn (f_X6_server y nn mm kk (f_X6_masterPlan y nn mm kk) (j - (85 + 9 * kk))) + (j - (85 + 9 * kk))) else (upd (upd (upd (oR y) 5 (oR y 5 + nI 1)) 4 (nI p)) (84 + 9 * kk) (-5)) j := fun j => mk_rowa hn hm hsvM (by omega) hin
              have lo : ∀ j, j ≠ 3 → j ≠ 4 → j ≠ 5 → j < 84 + 9 * kk → (upd (l_X6_makeStep_178a y nn mm kk mm 0 (upd (upd (upd (oR y) 5 (oR y 5 + nI 1)) 4 (nI p)) (84 + 9 * kk) (-5))) 3 ((l_X6_makeStep_178a y nn mm kk mm 0 (upd (upd (upd (oR y) 5 (oR y 5 + nI 1)) 4 (nI p)) (84 + 9 * kk) (-5))) 3 + nI 1)) j = oR y j := fun j h3 h4 h5 hj => by rw [upd_ne _ _ h3, char, if_neg (by omega), upd_ne _ _ (show j ≠ 84 + 9 * kk by omega), upd_ne _ _ (show j ≠ 4 by omega), upd_ne _ _ (show j ≠ 5 by omega)]
              have e3 : (upd (l_X6_makeStep_178a y nn mm kk mm 0 (upd (upd (upd (oR y) 5 (oR y 5 + nI 1)) 4 (nI p)) (84 + 9 * kk) (-5))) 3 ((l_X6_makeStep_178a y nn mm kk mm 0 (upd (upd (upd (oR y) 5 (oR y 5 + nI 1)) 4 (nI p)) (84 + 9 * kk) (-5))) 3 + nI 1)) 3 = nI (kk + 1) := by rw [upd_at, char, if_neg (by omega), upd_ne _ _ (show 3 ≠ 84 + 9 * kk by omega), upd_ne _ _ (show 3 ≠ 4 by decide), upd_ne _ _ (show 3 ≠ 5 by decide), h.2.1.2.2.1]; exact (nI_add kk 1)
              have eq : (upd (l_X6_makeStep_178a y nn mm kk mm 0 (upd (upd (upd (oR y) 5 (oR y 5 + nI 1)) 4 (nI p)) (84 + 9 * kk) (-5))) 3 ((l_X6_makeStep_178a y nn mm kk mm 0 (upd (upd (upd (oR y) 5 (oR y 5 + nI 1)) 4 (nI p)) (84 + 9 * kk) (-5))) 3 + nI 1)) (84 + 9 * kk) = (-5) := by rw [upd_ne _ _ (show 84 + 9 * kk ≠ 3 by omega), char, if_neg (by omega), upd_at]
              have eu : ∀ c, c < mm → (upd (l_X6_makeStep_178a y nn mm kk mm 0 (upd (upd (upd (oR y) 5 (oR y 5 + nI 1)) 4 (nI p)) (84 + 9 * kk) (-5))) 3 ((l_X6_makeStep_178a y nn mm kk mm 0 (upd (upd (upd (oR y) 5 (oR y 5 + nI 1)) 4 (nI p)) (84 + 9 * kk) (-5))) 3 + nI 1)) (85 + 9 * kk + c) = oR y (21 + 8 * tn (f_X6_server y nn mm kk (f_X6_masterPlan y nn mm kk) c) + c) := fun c hc => by rw [upd_ne _ _ (show 85 + 9 * kk + c ≠ 3 by omega), char, if_pos (by omega), show 85 + 9 * kk + c - (85 + 9 * kk) = c by omega]
              have e5 : (upd (l_X6_makeStep_178a y nn mm kk mm 0 (upd (upd (upd (oR y) 5 (oR y 5 + nI 1)) 4 (nI p)) (84 + 9 * kk) (-5))) 3 ((l_X6_makeStep_178a y nn mm kk mm 0 (upd (upd (upd (oR y) 5 (oR y 5 + nI 1)) 4 (nI p)) (84 + 9 * kk) (-5))) 3 + nI 1)) 5 = oR y 5 + nI 1 := by rw [upd_ne _ _ (show 5 ≠ 3 by decide), char, if_neg (by omega), upd_ne _ _ (show 5 ≠ 84 + 9 * kk by omega), upd_ne _ _ (show 5 ≠ 4 by decide), upd_at]
              have e4 : (upd (l_X6_makeStep_178a y nn mm kk mm 0 (upd (upd (upd (oR y) 5 (oR y 5 + nI 1)) 4 (nI p)) (84 + 9 * kk) (-5))) 3 ((l_X6_makeStep_178a y nn mm kk mm 0 (upd (upd (upd (oR y) 5 (oR y 5 + nI 1)) 4 (nI p)) (84 + 9 * kk) (-5))) 3 + nI 1)) 4 = nI p := by rw [upd_ne _ _ (show 4 ≠ 3 by decide), char, if_neg (by omega), upd_ne _ _ (show 4 ≠ 84 + 9 * kk by omega), upd_at]
              obtain ⟨gP, gK⟩ := pk _ lo c5 e3 eq eu
              exact ⟨rfl, kk + 1, gP, gK, h.2.2.best rfl e5 hp rfl e4 (hreach _ (fun s i hs hi => lo _ (by omega) (by omega) (by omega) (by omega)))⟩
        · have eub : ∀ t, uB (mkO (uB z) t) = nI p2 := fun t => ub
          have hmod : f_X6_prices (mkM (upd (oR y) 5 (oR y 5 + nI 1)) (oP y) (oA y) (oB y) (oS y) (oI y) (oX y) (oL y) (oT y) (oN y)) nn mm kk (nI p2) + f_X6_routes (mkM (upd (oR y) 5 (oR y 5 + nI 1)) (oP y) (oA y) (oB y) (oS y) (oI y) (oX y) (oL y) (oT y) (oN y)) nn mm kk (nI p2) = f_X3_costOf x (nI p2) := by
            refine (rp_cost (kk := kk) (y := mkM (upd (oR y) 5 (oR y 5 + nI 1)) (oP y) (oA y) (oB y) (oS y) (oI y) (oX y) (oL y) (oT y) (oN y)) (hP5 _) (fun c hc => ?_)).symm
            refine srv_re (x := y) (kk := kk) (fun j _ _ => upd_ne _ _ (by omega)) hn (by omega) ?_
            have := h.row.2.2.2.2.2 (by rw [rb]; exact p_pos hn hp2) c hc
            rw [rb] at this
            exact this
          rw [rb, hmod]
          simp only [eub, if_neg (m1_ne hn hp2), if_neg (p_pos hn hp2)]
          by_cases c6 : f_X3_costOf x (nI p) < f_X3_costOf x (nI p2)
          · simp only [if_pos c6]
            by_cases c4 : f_X3_costOf x (nI p) = f_X6_guess y nn mm kk (nI p)
            · rw [if_pos c4, if_pos c4]
              refine ⟨rfl, kk, ?_⟩
              show RelS nn mm kk _ x u (upd (upd (oR y) 5 (oR y 5 + nI 1)) 4 (nI p))
              have lo : ∀ j, j ≠ 4 → j ≠ 5 → upd (upd (oR y) 5 (oR y 5 + nI 1)) 4 (nI p) j = oR y j := fun j q1 q2 => (upd_ne _ _ q1).trans (upd_ne _ _ q2)
              exact ⟨h.1.cg (fun j hj h3 h4 h5 => lo j h4 h5), h.2.1.cg hn hm (lo 3 (by decide) (by decide)) (fun i hi => lo _ (by omega) (by omega)) (fun s i hs hi => lo _ (by omega) (by omega)) (fun j hj _ => lo _ (by omega) (by omega)), h.2.2.best rfl ((upd_ne _ _ (by decide)).trans (upd_at _ _ _)) hp rfl (upd_at _ _ _) (hreach _ (fun s i hs hi => lo _ (by omega) (by omega)))⟩
            · rw [if_neg c4, if_neg c4]
              by_cases c5 : kk = 40
              · rw [if_pos (decide_eq_true c5), if_pos c5]; exact same _
              · rw [if_neg (by simp [c5]), if_neg c5]
                have hin : ∀ j, 21 ≤ j → j < 77 → (upd (upd (upd (oR y) 5 (oR y 5 + nI 1)) 4 (nI p)) (84 + 9 * kk) (-5)) j = oR y j := fun j h1 h2 => by rw [upd_ne _ _ (show j ≠ 84 + 9 * kk by omega), upd_ne _ _ (show j ≠ 4 by omega), upd_ne _ _ (show j ≠ 5 by omega)]
                have char : ∀ j, l_X6_makeStep_178c y nn mm kk mm 0 (upd (upd (upd (oR y) 5 (oR y 5 + nI 1)) 4 (nI p)) (84 + 9 * kk) (-5)) j = if 85 + 9 * kk + 0 ≤ j ∧ j < 85 + 9 * kk + 0 + mm then oR y (21 + 8 * tn (f_X6_server y nn mm kk (f_X6_masterPlan y nn mm kk) (j - (85 + 9 * kk))) + (j - (85 + 9 * kk))) else (upd (upd (upd (oR y) 5 (oR y 5 + nI 1)) 4 (nI p)) (84 + 9 * kk) (-5)) j := fun j => mk_rowc hn hm hsvM (by omega) hin
                have lo : ∀ j, j ≠ 3 → j ≠ 4 → j ≠ 5 → j < 84 + 9 * kk → (upd (l_X6_makeStep_178c y nn mm kk mm 0 (upd (upd (upd (oR y) 5 (oR y 5 + nI 1)) 4 (nI p)) (84 + 9 * kk) (-5))) 3 ((l_X6_makeStep_178c y nn mm kk mm 0 (upd (upd (upd (oR y) 5 (oR y 5 + nI 1)) 4 (nI p)) (84 + 9 * kk) (-5))) 3 + nI 1)) j = oR y j := fun j h3 h4 h5 hj => by rw [upd_ne _ _ h3, char, if_neg (by omega), upd_ne _ _ (show j ≠ 84 + 9 * kk by omega), upd_ne _ _ (show j ≠ 4 by omega), upd_ne _ _ (show j ≠ 5 by omega)]
                have e3 : (upd (l_X6_makeStep_178c y nn mm kk mm 0 (upd (upd (upd (oR y) 5 (oR y 5 + nI 1)) 4 (nI p)) (84 + 9 * kk) (-5))) 3 ((l_X6_makeStep_178c y nn mm kk mm 0 (upd (upd (upd (oR y) 5 (oR y 5 + nI 1)) 4 (nI p)) (84 + 9 * kk) (-5))) 3 + nI 1)) 3 = nI (kk + 1) := by rw [upd_at, char, if_neg (by omega), upd_ne _ _ (show 3 ≠ 84 + 9 * kk by omega), upd_ne _ _ (show 3 ≠ 4 by decide), upd_ne _ _ (show 3 ≠ 5 by decide), h.2.1.2.2.1]; exact (nI_add kk 1)
                have eq : (upd (l_X6_makeStep_178c y nn mm kk mm 0 (upd (upd (upd (oR y) 5 (oR y 5 + nI 1)) 4 (nI p)) (84 + 9 * kk) (-5))) 3 ((l_X6_makeStep_178c y nn mm kk mm 0 (upd (upd (upd (oR y) 5 (oR y 5 + nI 1)) 4 (nI p)) (84 + 9 * kk) (-5))) 3 + nI 1)) (84 + 9 * kk) = (-5) := by rw [upd_ne _ _ (show 84 + 9 * kk ≠ 3 by omega), char, if_neg (by omega), upd_at]
                have eu : ∀ c, c < mm → (upd (l_X6_makeStep_178c y nn mm kk mm 0 (upd (upd (upd (oR y) 5 (oR y 5 + nI 1)) 4 (nI p)) (84 + 9 * kk) (-5))) 3 ((l_X6_makeStep_178c y nn mm kk mm 0 (upd (upd (upd (oR y) 5 (oR y 5 + nI 1)) 4 (nI p)) (84 + 9 * kk) (-5))) 3 + nI 1)) (85 + 9 * kk + c) = oR y (21 + 8 * tn (f_X6_server y nn mm kk (f_X6_masterPlan y nn mm kk) c) + c) := fun c hc => by rw [upd_ne _ _ (show 85 + 9 * kk + c ≠ 3 by omega), char, if_pos (by omega), show 85 + 9 * kk + c - (85 + 9 * kk) = c by omega]
                have e5 : (upd (l_X6_makeStep_178c y nn mm kk mm 0 (upd (upd (upd (oR y) 5 (oR y 5 + nI 1)) 4 (nI p)) (84 + 9 * kk) (-5))) 3 ((l_X6_makeStep_178c y nn mm kk mm 0 (upd (upd (upd (oR y) 5 (oR y 5 + nI 1)) 4 (nI p)) (84 + 9 * kk) (-5))) 3 + nI 1)) 5 = oR y 5 + nI 1 := by rw [upd_ne _ _ (show 5 ≠ 3 by decide), char, if_neg (by omega), upd_ne _ _ (show 5 ≠ 84 + 9 * kk by omega), upd_ne _ _ (show 5 ≠ 4 by decide), upd_at]
                have e4 : (upd (l_X6_makeStep_178c y nn mm kk mm 0 (upd (upd (upd (oR y) 5 (oR y 5 + nI 1)) 4 (nI p)) (84 + 9 * kk) (-5))) 3 ((l_X6_makeStep_178c y nn mm kk mm 0 (upd (upd (upd (oR y) 5 (oR y 5 + nI 1)) 4 (nI p)) (84 + 9 * kk) (-5))) 3 + nI 1)) 4 = nI p := by rw [upd_ne _ _ (show 4 ≠ 3 by decide), char, if_neg (by omega), upd_ne _ _ (show 4 ≠ 84 + 9 * kk by omega), upd_at]
                obtain ⟨gP, gK⟩ := pk _ lo c5 e3 eq eu
                exact ⟨rfl, kk + 1, gP, gK, h.2.2.best rfl e5 hp rfl e4 (hreach _ (fun s i hs hi => lo _ (by omega) (by omega) (by omega) (by omega)))⟩
          · simp only [if_neg c6]
            by_cases c4 : f_X3_costOf x (nI p) = f_X6_guess y nn mm kk (nI p)
            · rw [if_pos c4, if_pos c4]
              refine ⟨rfl, kk, ?_⟩
              show RelS nn mm kk _ x u (upd (oR y) 5 (oR y 5 + nI 1))
              exact ⟨hP5 _, h.2.1.cg hn hm (upd_ne _ _ (by decide)) (fun i hi => upd_ne _ _ (by omega)) (fun s i hs hi => upd_ne _ _ (by omega)) (fun j hj _ => upd_ne _ _ (by omega)), h.2.2.up rfl rfl (upd_ne _ _ (by decide)) (upd_at _ _ _) (fun s i hs hi => upd_ne _ _ (by omega))⟩
            · rw [if_neg c4, if_neg c4]
              by_cases c5 : kk = 40
              · rw [if_pos (decide_eq_true c5), if_pos c5]; exact same _
              · rw [if_neg (by simp [c5]), if_neg c5]
                have hin : ∀ j, 21 ≤ j → j < 77 → (upd (upd (oR y) 5 (oR y 5 + nI 1)) (84 + 9 * kk) (-5)) j = oR y j := fun j h1 h2 => by rw [upd_ne _ _ (show j ≠ 84 + 9 * kk by omega), upd_ne _ _ (show j ≠ 5 by omega)]
                have char : ∀ j, l_X6_makeStep_178b y nn mm kk mm 0 (upd (upd (oR y) 5 (oR y 5 + nI 1)) (84 + 9 * kk) (-5)) j = if 85 + 9 * kk + 0 ≤ j ∧ j < 85 + 9 * kk + 0 + mm then oR y (21 + 8 * tn (f_X6_server y nn mm kk (f_X6_masterPlan y nn mm kk) (j - (85 + 9 * kk))) + (j - (85 + 9 * kk))) else (upd (upd (oR y) 5 (oR y 5 + nI 1)) (84 + 9 * kk) (-5)) j := fun j => mk_rowb hn hm hsvM (by omega) hin
                have lo : ∀ j, j ≠ 3 → j ≠ 4 → j ≠ 5 → j < 84 + 9 * kk → (upd (l_X6_makeStep_178b y nn mm kk mm 0 (upd (upd (oR y) 5 (oR y 5 + nI 1)) (84 + 9 * kk) (-5))) 3 ((l_X6_makeStep_178b y nn mm kk mm 0 (upd (upd (oR y) 5 (oR y 5 + nI 1)) (84 + 9 * kk) (-5))) 3 + nI 1)) j = oR y j := fun j h3 h4 h5 hj => by rw [upd_ne _ _ h3, char, if_neg (by omega), upd_ne _ _ (show j ≠ 84 + 9 * kk by omega), upd_ne _ _ (show j ≠ 5 by omega)]
                have e3 : (upd (l_X6_makeStep_178b y nn mm kk mm 0 (upd (upd (oR y) 5 (oR y 5 + nI 1)) (84 + 9 * kk) (-5))) 3 ((l_X6_makeStep_178b y nn mm kk mm 0 (upd (upd (oR y) 5 (oR y 5 + nI 1)) (84 + 9 * kk) (-5))) 3 + nI 1)) 3 = nI (kk + 1) := by rw [upd_at, char, if_neg (by omega), upd_ne _ _ (show 3 ≠ 84 + 9 * kk by omega), upd_ne _ _ (show 3 ≠ 5 by decide), h.2.1.2.2.1]; exact (nI_add kk 1)
                have eq : (upd (l_X6_makeStep_178b y nn mm kk mm 0 (upd (upd (oR y) 5 (oR y 5 + nI 1)) (84 + 9 * kk) (-5))) 3 ((l_X6_makeStep_178b y nn mm kk mm 0 (upd (upd (oR y) 5 (oR y 5 + nI 1)) (84 + 9 * kk) (-5))) 3 + nI 1)) (84 + 9 * kk) = (-5) := by rw [upd_ne _ _ (show 84 + 9 * kk ≠ 3 by omega), char, if_neg (by omega), upd_at]
                have eu : ∀ c, c < mm → (upd (l_X6_makeStep_178b y nn mm kk mm 0 (upd (upd (oR y) 5 (oR y 5 + nI 1)) (84 + 9 * kk) (-5))) 3 ((l_X6_makeStep_178b y nn mm kk mm 0 (upd (upd (oR y) 5 (oR y 5 + nI 1)) (84 + 9 * kk) (-5))) 3 + nI 1)) (85 + 9 * kk + c) = oR y (21 + 8 * tn (f_X6_server y nn mm kk (f_X6_masterPlan y nn mm kk) c) + c) := fun c hc => by rw [upd_ne _ _ (show 85 + 9 * kk + c ≠ 3 by omega), char, if_pos (by omega), show 85 + 9 * kk + c - (85 + 9 * kk) = c by omega]
                have e5 : (upd (l_X6_makeStep_178b y nn mm kk mm 0 (upd (upd (oR y) 5 (oR y 5 + nI 1)) (84 + 9 * kk) (-5))) 3 ((l_X6_makeStep_178b y nn mm kk mm 0 (upd (upd (oR y) 5 (oR y 5 + nI 1)) (84 + 9 * kk) (-5))) 3 + nI 1)) 5 = oR y 5 + nI 1 := by rw [upd_ne _ _ (show 5 ≠ 3 by decide), char, if_neg (by omega), upd_ne _ _ (show 5 ≠ 84 + 9 * kk by omega), upd_at]
                have e4 : (upd (l_X6_makeStep_178b y nn mm kk mm 0 (upd (upd (oR y) 5 (oR y 5 + nI 1)) (84 + 9 * kk) (-5))) 3 ((l_X6_makeStep_178b y nn mm kk mm 0 (upd (upd (oR y) 5 (oR y 5 + nI 1)) (84 + 9 * kk) (-5))) 3 + nI 1)) 4 = oR y 4 := by rw [upd_ne _ _ (show 4 ≠ 3 by decide), char, if_neg (by omega), upd_ne _ _ (show 4 ≠ 84 + 9 * kk by omega), upd_ne _ _ (show 4 ≠ 5 by decide)]
                obtain ⟨gP, gK⟩ := pk _ lo c5 e3 eq eu
                exact ⟨rfl, kk + 1, gP, gK, h.2.2.up rfl rfl e4 e5 (fun s i hs hi => lo _ (by omega) (by omega) (by omega) (by omega))⟩
      · rw [ml, mr, if_neg (m1_ne (n := 7) (by decide) (by omega)), if_neg (nI_pos (show j < 2 ^ 31 by omega))]
        by_cases c5 : kk = 40
        · rw [if_pos (decide_eq_true c5), if_pos c5]; exact same _
        · rw [if_neg (by simp [c5]), if_neg c5, tn_nI (show j < 2 ^ 31 by omega)]
          refine ⟨rfl, kk + 1, ?_⟩
          show RelS nn mm (kk + 1) _ x _ (upd (l_X6_makeStep_178 y nn mm kk mm 0 (upd (upd (oR y) 5 (oR y 5 + nI 1)) (84 + 9 * kk) (nI j))) 3 ((l_X6_makeStep_178 y nn mm kk mm 0 (upd (upd (oR y) 5 (oR y 5 + nI 1)) (84 + 9 * kk) (nI j))) 3 + nI 1))
          have char : ∀ q, l_X6_makeStep_178 y nn mm kk mm 0 (upd (upd (oR y) 5 (oR y 5 + nI 1)) (84 + 9 * kk) (nI j)) q = if 85 + 9 * kk + 0 ≤ q ∧ q < 85 + 9 * kk + 0 + mm then nI 0 else (upd (upd (oR y) 5 (oR y 5 + nI 1)) (84 + 9 * kk) (nI j)) q := fun q => mk_row
          have lo : ∀ q, q ≠ 3 → q ≠ 5 → q < 84 + 9 * kk → (upd (l_X6_makeStep_178 y nn mm kk mm 0 (upd (upd (oR y) 5 (oR y 5 + nI 1)) (84 + 9 * kk) (nI j))) 3 ((l_X6_makeStep_178 y nn mm kk mm 0 (upd (upd (oR y) 5 (oR y 5 + nI 1)) (84 + 9 * kk) (nI j))) 3 + nI 1)) q = oR y q := fun q h3 h5 hj => by rw [upd_ne _ _ h3, char, if_neg (by omega), upd_ne _ _ (show q ≠ 84 + 9 * kk by omega), upd_ne _ _ h5]
          have e3 : (upd (l_X6_makeStep_178 y nn mm kk mm 0 (upd (upd (oR y) 5 (oR y 5 + nI 1)) (84 + 9 * kk) (nI j))) 3 ((l_X6_makeStep_178 y nn mm kk mm 0 (upd (upd (oR y) 5 (oR y 5 + nI 1)) (84 + 9 * kk) (nI j))) 3 + nI 1)) 3 = nI (kk + 1) := by rw [upd_at, char, if_neg (by omega), upd_ne _ _ (show 3 ≠ 84 + 9 * kk by omega), upd_ne _ _ (show 3 ≠ 5 by decide), h.2.1.2.2.1]; exact (nI_add kk 1)
          have eq : (upd (l_X6_makeStep_178 y nn mm kk mm 0 (upd (upd (oR y) 5 (oR y 5 + nI 1)) (84 + 9 * kk) (nI j))) 3 ((l_X6_makeStep_178 y nn mm kk mm 0 (upd (upd (oR y) 5 (oR y 5 + nI 1)) (84 + 9 * kk) (nI j))) 3 + nI 1)) (84 + 9 * kk) = nI j := by rw [upd_ne _ _ (show 84 + 9 * kk ≠ 3 by omega), char, if_neg (by omega), upd_at]
          have e5 : (upd (l_X6_makeStep_178 y nn mm kk mm 0 (upd (upd (oR y) 5 (oR y 5 + nI 1)) (84 + 9 * kk) (nI j))) 3 ((l_X6_makeStep_178 y nn mm kk mm 0 (upd (upd (oR y) 5 (oR y 5 + nI 1)) (84 + 9 * kk) (nI j))) 3 + nI 1)) 5 = oR y 5 + nI 1 := by rw [upd_ne _ _ (show 5 ≠ 3 by decide), char, if_neg (by omega), upd_ne _ _ (show 5 ≠ 84 + 9 * kk by omega), upd_at]
          have gP : RelP nn mm x (upd (l_X6_makeStep_178 y nn mm kk mm 0 (upd (upd (oR y) 5 (oR y 5 + nI 1)) (84 + 9 * kk) (nI j))) 3 ((l_X6_makeStep_178 y nn mm kk mm 0 (upd (upd (oR y) 5 (oR y 5 + nI 1)) (84 + 9 * kk) (nI j))) 3 + nI 1)) := h.1.cg (fun q hq h3 h4 h5 => lo q h3 h5 (by omega))
          exact ⟨gP, RelK.ray h.2.1 gP (by omega) (fun q h6 hq => lo q (by omega) (by omega) hq) e3 hj eq, h.2.2.up rfl rfl (lo 4 (by decide) (by decide) (by omega)) e5 (fun s i hs hi => lo _ (by omega) (by omega) (by omega))⟩
end RelJ
