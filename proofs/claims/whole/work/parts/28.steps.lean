/-! what a step of the reference leaves -/
theorem fm_ray {x : MoC} {nn mm kk : Nat} {plan : Int32} (hm : mm ≤ 8) : ∀ (d i : Nat), i + d = mm → l_X6_missed_2 x nn mm kk plan d i = (-5) ∨ (l_X6_missed_2 x nn mm kk plan d i = nI (tn (l_X6_missed_2 x nn mm kk plan d i)) ∧ tn (l_X6_missed_2 x nn mm kk plan d i) < mm) := by
  intro d
  induction d with
  | zero => intro i _; left; rfl
  | succ d ih =>
    intro i hid
    rw [l_X6_missed_2]
    by_cases c : (plan &&& f_X6_reachedFrom x nn mm kk i) = 0
    · rw [if_pos c]; right; exact nI_inv (by omega) (by omega)
    · rw [if_neg c]; exact ih (i + 1) (by omega)
theorem missed_ray {x : MoC} {nn mm kk : Nat} {plan : Int32} (hm : mm ≤ 8) : f_X6_missed x nn mm kk plan = (-5) ∨ (f_X6_missed x nn mm kk plan = nI (tn (f_X6_missed x nn mm kk plan)) ∧ tn (f_X6_missed x nn mm kk plan) < mm) := fm_ray hm mm 0 (by omega)
def RowOk (x : MoC) (nn mm kk : Nat) : Prop := oR x 0 = nI nn ∧ oR x 1 = nI mm ∧ oR x 3 = nI kk ∧ kk ≤ 40 ∧ RaysOk x mm kk ∧ (¬ oR x 4 < 0 → ∀ cn, cn < mm → ¬ f_X6_server x nn mm kk (oR x 4) cn < 0)
theorem srv_re {x x' : MoC} {nn mm kk k' cn : Nat} {plan : Int32} (hr : ∀ j, 21 ≤ j → j < 77 → oR x' j = oR x j) (hn : nn ≤ 7) (hc : cn < 8) (h : ¬ f_X6_server x nn mm kk plan cn < 0) : ¬ f_X6_server x' nn mm k' plan cn < 0 := by
  rw [srv_cg hr hn hc]
  exact fun q => h ((server_lt hn).mpr ((server_lt hn).mp q))
theorem mk_row {x : MoC} {nn mm kk d i : Nat} {u : Nat → Int32} {j : Nat} : l_X6_makeStep_178 x nn mm kk d i u j = if 85 + 9 * kk + i ≤ j ∧ j < 85 + 9 * kk + i + d then nI 0 else u j := by
  induction d generalizing i u with
  | zero => rw [l_X6_makeStep_178, if_neg (by omega)]
  | succ d ih =>
    rw [l_X6_makeStep_178, ih]
    by_cases c : 85 + 9 * kk + (i + 1) ≤ j ∧ j < 85 + 9 * kk + (i + 1) + d
    · rw [if_pos c, if_pos (by omega)]
    · rw [if_neg c]
      by_cases e : j = 84 + 9 * kk + 1 + i
      · rw [e, upd_at, if_pos (by omega)]
      · rw [upd_ne _ _ e, if_neg (by omega)]
theorem mk_rowa {x : MoC} {nn mm kk : Nat} (hn : nn ≤ 7) (hm : mm ≤ 8) (hs : ∀ cn, cn < mm → ¬ f_X6_server x nn mm kk (f_X6_masterPlan x nn mm kk) cn < 0) {d i : Nat} {u : Nat → Int32} {j : Nat} (hid : i + d ≤ mm) (hu : ∀ j, 21 ≤ j → j < 77 → u j = oR x j) : l_X6_makeStep_178a x nn mm kk d i u j = if 85 + 9 * kk + i ≤ j ∧ j < 85 + 9 * kk + i + d then oR x (21 + 8 * tn (f_X6_server x nn mm kk (f_X6_masterPlan x nn mm kk) (j - (85 + 9 * kk))) + (j - (85 + 9 * kk))) else u j := by
  induction d generalizing i u with
  | zero => rw [l_X6_makeStep_178a, if_neg (by omega)]
  | succ d ih =>
    rw [l_X6_makeStep_178a]
    have hi : i < mm := by omega
    have hsv := server_n hn (hs i hi)
    rw [srv_cg (x := x) (x' := mkM u (oP x) (oA x) (oB x) (oS x) (oI x) (oX x) (oL x) (oT x) (oN x)) (fun j h1 h2 => (congrFun oR_mk j).trans (hu j h1 h2)) hn (by omega), hu _ (by omega) (by omega)]
    rw [ih (by omega) (fun j h1 h2 => (upd_ne _ _ (by omega)).trans (hu j h1 h2))]
    by_cases c : 85 + 9 * kk + (i + 1) ≤ j ∧ j < 85 + 9 * kk + (i + 1) + d
    · rw [if_pos c, if_pos (by omega)]
    · rw [if_neg c]
      by_cases e : j = 84 + 9 * kk + 1 + i
      · have e2 : j - (85 + 9 * kk) = i := by omega
        rw [e2, e, upd_at, if_pos (by omega)]
      · rw [upd_ne _ _ e, if_neg (by omega)]
theorem mk_rowb {x : MoC} {nn mm kk : Nat} (hn : nn ≤ 7) (hm : mm ≤ 8) (hs : ∀ cn, cn < mm → ¬ f_X6_server x nn mm kk (f_X6_masterPlan x nn mm kk) cn < 0) {d i : Nat} {u : Nat → Int32} {j : Nat} (hid : i + d ≤ mm) (hu : ∀ j, 21 ≤ j → j < 77 → u j = oR x j) : l_X6_makeStep_178b x nn mm kk d i u j = if 85 + 9 * kk + i ≤ j ∧ j < 85 + 9 * kk + i + d then oR x (21 + 8 * tn (f_X6_server x nn mm kk (f_X6_masterPlan x nn mm kk) (j - (85 + 9 * kk))) + (j - (85 + 9 * kk))) else u j := by
  induction d generalizing i u with
  | zero => rw [l_X6_makeStep_178b, if_neg (by omega)]
  | succ d ih =>
    rw [l_X6_makeStep_178b]
    have hi : i < mm := by omega
    have hsv := server_n hn (hs i hi)
    rw [srv_cg (x := x) (x' := mkM u (oP x) (oA x) (oB x) (oS x) (oI x) (oX x) (oL x) (oT x) (oN x)) (fun j h1 h2 => (congrFun oR_mk j).trans (hu j h1 h2)) hn (by omega), hu _ (by omega) (by omega)]
    rw [ih (by omega) (fun j h1 h2 => (upd_ne _ _ (by omega)).trans (hu j h1 h2))]
    by_cases c : 85 + 9 * kk + (i + 1) ≤ j ∧ j < 85 + 9 * kk + (i + 1) + d
    · rw [if_pos c, if_pos (by omega)]
    · rw [if_neg c]
      by_cases e : j = 84 + 9 * kk + 1 + i
      · have e2 : j - (85 + 9 * kk) = i := by omega
        rw [e2, e, upd_at, if_pos (by omega)]
      · rw [upd_ne _ _ e, if_neg (by omega)]
theorem mk_rowc {x : MoC} {nn mm kk : Nat} (hn : nn ≤ 7) (hm : mm ≤ 8) (hs : ∀ cn, cn < mm → ¬ f_X6_server x nn mm kk (f_X6_masterPlan x nn mm kk) cn < 0) {d i : Nat} {u : Nat → Int32} {j : Nat} (hid : i + d ≤ mm) (hu : ∀ j, 21 ≤ j → j < 77 → u j = oR x j) : l_X6_makeStep_178c x nn mm kk d i u j = if 85 + 9 * kk + i ≤ j ∧ j < 85 + 9 * kk + i + d then oR x (21 + 8 * tn (f_X6_server x nn mm kk (f_X6_masterPlan x nn mm kk) (j - (85 + 9 * kk))) + (j - (85 + 9 * kk))) else u j := by
  induction d generalizing i u with
  | zero => rw [l_X6_makeStep_178c, if_neg (by omega)]
  | succ d ih =>
    rw [l_X6_makeStep_178c]
    have hi : i < mm := by omega
    have hsv := server_n hn (hs i hi)
    rw [srv_cg (x := x) (x' := mkM u (oP x) (oA x) (oB x) (oS x) (oI x) (oX x) (oL x) (oT x) (oN x)) (fun j h1 h2 => (congrFun oR_mk j).trans (hu j h1 h2)) hn (by omega), hu _ (by omega) (by omega)]
    rw [ih (by omega) (fun j h1 h2 => (upd_ne _ _ (by omega)).trans (hu j h1 h2))]
    by_cases c : 85 + 9 * kk + (i + 1) ≤ j ∧ j < 85 + 9 * kk + (i + 1) + d
    · rw [if_pos c, if_pos (by omega)]
    · rw [if_neg c]
      by_cases e : j = 84 + 9 * kk + 1 + i
      · have e2 : j - (85 + 9 * kk) = i := by omega
        rw [e2, e, upd_at, if_pos (by omega)]
      · rw [upd_ne _ _ e, if_neg (by omega)]
theorem RowOk.solved {x x' : MoC} {nn mm kk : Nat} (hn : nn ≤ 7) (hm : mm ≤ 8) (h : RowOk x nn mm kk) (e : ∀ j, j ≠ 4 → j ≠ 5 → oR x' j = oR x j) (eb : oR x' 4 = oR x 4 ∨ (∀ cn, cn < mm → ¬ f_X6_server x nn mm kk (oR x' 4) cn < 0)) : RowOk x' nn mm kk := by
  obtain ⟨h0, h1, h3, hk, hc, hb⟩ := h
  refine ⟨(e 0 (by decide) (by decide)).trans h0, (e 1 (by decide) (by decide)).trans h1, (e 3 (by decide) (by decide)).trans h3, hk, ?_, ?_⟩
  · intro k hk2 hr
    rw [e _ (by omega) (by omega)] at hr ⊢
    exact hc k hk2 hr
  · intro h4 cn hcn
    refine srv_re (x := x) (kk := kk) (fun j _ _ => e j (by omega) (by omega)) hn (by omega) ?_
    cases eb with
    | inl q => rw [q] at h4 ⊢; exact hb h4 cn hcn
    | inr q => exact q cn hcn
theorem RowOk.new {x x' : MoC} {nn mm kk : Nat} (hn : nn ≤ 7) (hm : mm ≤ 8) (hk0 : kk < 40) (h : RowOk x nn mm kk) (e : ∀ j, j ≠ 3 → j ≠ 4 → j ≠ 5 → j < 84 + 9 * kk → oR x' j = oR x j) (e3 : oR x' 3 = nI (kk + 1)) (ev : oR x' (84 + 9 * kk) < 0 ∨ (oR x' (84 + 9 * kk) = nI (tn (oR x' (84 + 9 * kk))) ∧ tn (oR x' (84 + 9 * kk)) < mm)) (eb : oR x' 4 = oR x 4 ∨ (∀ cn, cn < mm → ¬ f_X6_server x nn mm kk (oR x' 4) cn < 0)) : RowOk x' nn mm (kk + 1) := by
  obtain ⟨h0, h1, h3, hk, hc, hb⟩ := h
  refine ⟨(e 0 (by decide) (by decide) (by decide) (by omega)).trans h0, (e 1 (by decide) (by decide) (by decide) (by omega)).trans h1, e3, by omega, ?_, ?_⟩
  · intro k hk2 hr
    by_cases q : k = kk
    · rw [q] at hr ⊢; exact ev.resolve_left hr
    · rw [e _ (by omega) (by omega) (by omega) (by omega)] at hr ⊢
      exact hc k (by omega) hr
  · intro h4 cn hcn
    refine srv_re (x := x) (kk := kk) (fun j _ _ => e j (by omega) (by omega) (by omega) (by omega)) hn (by omega) ?_
    cases eb with
    | inl q => rw [q] at h4 ⊢; exact hb h4 cn hcn
    | inr q => exact q cn hcn
theorem mk_ok {x : MoC} {nn mm kk : Nat} (hn : nn ≤ 7) (hm : mm ≤ 8) (h : RowOk x nn mm kk) : ((f_X6_makeStep x nn mm kk).1 < 0 ∧ (f_X6_makeStep x nn mm kk).2 = x) ∨ ((f_X6_makeStep x nn mm kk).1 = nI 2 ∧ RowOk (f_X6_makeStep x nn mm kk).2 nn mm kk) ∨ (((f_X6_makeStep x nn mm kk).1 = nI 0 ∨ (f_X6_makeStep x nn mm kk).1 = nI 1) ∧ kk < 40 ∧ RowOk (f_X6_makeStep x nn mm kk).2 nn mm (kk + 1)) := by
  obtain ⟨h0, h1, h3, hk, hc, hb⟩ := id h
  unfold f_X6_makeStep
  by_cases c1 : mm = 0
  · rw [if_pos c1]; exact Or.inl ⟨(by decide : (-4 : Int32) < 0), rfl⟩
  · rw [if_neg c1]
    by_cases c2 : f_X6_masterPlan x nn mm kk < 0
    · rw [if_pos c2]; exact Or.inl ⟨(by decide : (-4 : Int32) < 0), rfl⟩
    · rw [if_neg c2]
      by_cases c3 : f_X6_missed x nn mm kk (f_X6_masterPlan x nn mm kk) < 0
      · rw [if_pos c3]
        have hsv := missed_server hn hm c3
        split
        · split
          · exact Or.inr (Or.inl ⟨rfl, RowOk.solved hn hm h (fun j j4 j5 => by rw [oR_mk, upd_ne _ _ j4, upd_ne _ _ j5]) (Or.inr (by rw [oR_mk, upd_at]; exact hsv))⟩)
          · split
            · exact Or.inr (Or.inl ⟨rfl, RowOk.solved hn hm h (fun j j4 j5 => by rw [oR_mk, upd_ne _ _ j4, upd_ne _ _ j5]) (Or.inr (by rw [oR_mk, upd_at]; exact hsv))⟩)
            · exact Or.inr (Or.inl ⟨rfl, RowOk.solved hn hm h (fun j j4 j5 => by rw [oR_mk, upd_ne _ _ j5]) (Or.inl (by rw [oR_mk, upd_ne _ _ (by decide)]))⟩)
        · by_cases c5 : kk = 40
          · rw [if_pos c5]; exact Or.inl ⟨(by decide : (-3 : Int32) < 0), rfl⟩
          · rw [if_neg c5]
            split
            · refine Or.inr (Or.inr ⟨Or.inr rfl, by omega, RowOk.new hn hm (by omega) h ?_ ?_ ?_ ?_⟩)
              · intro j j3 j4 j5 jk; rw [oR_mk, upd_ne _ _ j3, mk_rowa hn hm hsv (by omega) (fun j h1 h2 => by rw [upd_ne _ _ (show j ≠ 84 + 9 * kk by omega), upd_ne _ _ (show j ≠ 4 by omega), upd_ne _ _ (show j ≠ 5 by omega)]), if_neg (by omega), upd_ne _ _ (show j ≠ 84 + 9 * kk by omega), upd_ne _ _ (show j ≠ 4 by omega), upd_ne _ _ (show j ≠ 5 by omega)]
              · rw [oR_mk, upd_at, mk_rowa hn hm hsv (by omega) (fun j h1 h2 => by rw [upd_ne _ _ (show j ≠ 84 + 9 * kk by omega), upd_ne _ _ (show j ≠ 4 by omega), upd_ne _ _ (show j ≠ 5 by omega)]), if_neg (by omega), upd_ne _ _ (show 3 ≠ 84 + 9 * kk by omega), upd_ne _ _ (show 3 ≠ 4 by decide), upd_ne _ _ (show 3 ≠ 5 by decide), h3]; exact nI_inc _
              · rw [oR_mk, upd_ne _ _ (show 84 + 9 * kk ≠ 3 by omega), mk_rowa hn hm hsv (by omega) (fun j h1 h2 => by rw [upd_ne _ _ (show j ≠ 84 + 9 * kk by omega), upd_ne _ _ (show j ≠ 4 by omega), upd_ne _ _ (show j ≠ 5 by omega)]), if_neg (by omega), upd_at]
                exact (missed_ray hm).imp (fun q => by rw [q]; decide) id
              · right; rw [oR_mk, upd_ne _ _ (show 4 ≠ 3 by decide), mk_rowa hn hm hsv (by omega) (fun j h1 h2 => by rw [upd_ne _ _ (show j ≠ 84 + 9 * kk by omega), upd_ne _ _ (show j ≠ 4 by omega), upd_ne _ _ (show j ≠ 5 by omega)]), if_neg (by omega), upd_ne _ _ (show 4 ≠ 84 + 9 * kk by omega), upd_at]; exact hsv
            · split
              · refine Or.inr (Or.inr ⟨Or.inr rfl, by omega, RowOk.new hn hm (by omega) h ?_ ?_ ?_ ?_⟩)
                · intro j j3 j4 j5 jk; rw [oR_mk, upd_ne _ _ j3, mk_rowc hn hm hsv (by omega) (fun j h1 h2 => by rw [upd_ne _ _ (show j ≠ 84 + 9 * kk by omega), upd_ne _ _ (show j ≠ 4 by omega), upd_ne _ _ (show j ≠ 5 by omega)]), if_neg (by omega), upd_ne _ _ (show j ≠ 84 + 9 * kk by omega), upd_ne _ _ (show j ≠ 4 by omega), upd_ne _ _ (show j ≠ 5 by omega)]
                · rw [oR_mk, upd_at, mk_rowc hn hm hsv (by omega) (fun j h1 h2 => by rw [upd_ne _ _ (show j ≠ 84 + 9 * kk by omega), upd_ne _ _ (show j ≠ 4 by omega), upd_ne _ _ (show j ≠ 5 by omega)]), if_neg (by omega), upd_ne _ _ (show 3 ≠ 84 + 9 * kk by omega), upd_ne _ _ (show 3 ≠ 4 by decide), upd_ne _ _ (show 3 ≠ 5 by decide), h3]; exact nI_inc _
                · rw [oR_mk, upd_ne _ _ (show 84 + 9 * kk ≠ 3 by omega), mk_rowc hn hm hsv (by omega) (fun j h1 h2 => by rw [upd_ne _ _ (show j ≠ 84 + 9 * kk by omega), upd_ne _ _ (show j ≠ 4 by omega), upd_ne _ _ (show j ≠ 5 by omega)]), if_neg (by omega), upd_at]
                  exact (missed_ray hm).imp (fun q => by rw [q]; decide) id
                · right; rw [oR_mk, upd_ne _ _ (show 4 ≠ 3 by decide), mk_rowc hn hm hsv (by omega) (fun j h1 h2 => by rw [upd_ne _ _ (show j ≠ 84 + 9 * kk by omega), upd_ne _ _ (show j ≠ 4 by omega), upd_ne _ _ (show j ≠ 5 by omega)]), if_neg (by omega), upd_ne _ _ (show 4 ≠ 84 + 9 * kk by omega), upd_at]; exact hsv
              · refine Or.inr (Or.inr ⟨Or.inr rfl, by omega, RowOk.new hn hm (by omega) h ?_ ?_ ?_ ?_⟩)
                · intro j j3 j4 j5 jk; rw [oR_mk, upd_ne _ _ j3, mk_rowb hn hm hsv (by omega) (fun j h1 h2 => by rw [upd_ne _ _ (show j ≠ 84 + 9 * kk by omega), upd_ne _ _ (show j ≠ 5 by omega)]), if_neg (by omega), upd_ne _ _ (show j ≠ 84 + 9 * kk by omega), upd_ne _ _ (show j ≠ 5 by omega)]
                · rw [oR_mk, upd_at, mk_rowb hn hm hsv (by omega) (fun j h1 h2 => by rw [upd_ne _ _ (show j ≠ 84 + 9 * kk by omega), upd_ne _ _ (show j ≠ 5 by omega)]), if_neg (by omega), upd_ne _ _ (show 3 ≠ 84 + 9 * kk by omega), upd_ne _ _ (show 3 ≠ 5 by decide), h3]; exact nI_inc _
                · rw [oR_mk, upd_ne _ _ (show 84 + 9 * kk ≠ 3 by omega), mk_rowb hn hm hsv (by omega) (fun j h1 h2 => by rw [upd_ne _ _ (show j ≠ 84 + 9 * kk by omega), upd_ne _ _ (show j ≠ 5 by omega)]), if_neg (by omega), upd_at]
                  exact (missed_ray hm).imp (fun q => by rw [q]; decide) id
                · left; rw [oR_mk, upd_ne _ _ (show 4 ≠ 3 by decide), mk_rowb hn hm hsv (by omega) (fun j h1 h2 => by rw [upd_ne _ _ (show j ≠ 84 + 9 * kk by omega), upd_ne _ _ (show j ≠ 5 by omega)]), if_neg (by omega), upd_ne _ _ (show 4 ≠ 84 + 9 * kk by omega), upd_ne _ _ (show 4 ≠ 5 by decide)]
      · rw [if_neg c3]
        by_cases c5 : kk = 40
        · rw [if_pos c5]; exact Or.inl ⟨(by decide : (-3 : Int32) < 0), rfl⟩
        · rw [if_neg c5]
          refine Or.inr (Or.inr ⟨Or.inl rfl, by omega, RowOk.new hn hm (by omega) h ?_ ?_ ?_ ?_⟩)
          · intro j j3 j4 j5 jk; rw [oR_mk, upd_ne _ _ j3, mk_row, if_neg (by omega), upd_ne _ _ (show j ≠ 84 + 9 * kk by omega), upd_ne _ _ (show j ≠ 5 by omega)]
          · rw [oR_mk, upd_at, mk_row, if_neg (by omega), upd_ne _ _ (show 3 ≠ 84 + 9 * kk by omega), upd_ne _ _ (show 3 ≠ 5 by decide), h3]; exact nI_inc _
          · rw [oR_mk, upd_ne _ _ (show 84 + 9 * kk ≠ 3 by omega), mk_row, if_neg (by omega), upd_at]
            exact (missed_ray hm).imp (fun q => by rw [q]; decide) id
          · left; rw [oR_mk, upd_ne _ _ (show 4 ≠ 3 by decide), mk_row, if_neg (by omega), upd_ne _ _ (show 4 ≠ 84 + 9 * kk by omega), upd_ne _ _ (show 4 ≠ 5 by decide)]
/-! what a dropped cut leaves -/
theorem dr_row {x : MoC} {nn mm kk kc : Nat} (hkc : kc < 40) {d i : Nat} {u : Nat → Int32} {j : Nat} (hid : i + d = 444) : l_X6_dropOne_8 x nn mm kk kc d i u j = if i ≤ j ∧ j < 444 then (if j + 9 < 444 then u (j + 9) else nI 0) else u j := by
  induction d generalizing i u with
  | zero => rw [l_X6_dropOne_8, if_neg (by omega)]
  | succ d ih =>
    rw [l_X6_dropOne_8]
    by_cases e : j = i
    · by_cases c : i + 9 < 444
      · rw [if_pos c, ih (by omega), if_neg (by omega), if_pos (by omega), e, upd_at, if_pos c]
      · rw [if_neg c, ih (by omega), if_neg (by omega), if_pos (by omega), e, upd_at, if_neg c]
    · by_cases c : i + 9 < 444
      · rw [if_pos c, ih (by omega)]
        by_cases q : i ≤ j ∧ j < 444
        · rw [if_pos q, if_pos (by omega), upd_ne _ _ (by omega)]
        · rw [if_neg q, if_neg (by omega), upd_ne _ _ e]
      · rw [if_neg c, ih (by omega)]
        by_cases q : i ≤ j ∧ j < 444
        · rw [if_pos q, if_pos (by omega), if_neg (by omega), if_neg (by omega)]
        · rw [if_neg q, if_neg (by omega), upd_ne _ _ e]
theorem dropOne_at {x : MoC} {nn mm kk kc : Nat} (hkc : kc < 40) {j : Nat} : oR (f_X6_dropOne x nn mm kk kc) j = if j = 3 then oR x 3 - nI 1 else if 84 + 9 * kc ≤ j ∧ j < 444 then (if j + 9 < 444 then oR x (j + 9) else nI 0) else oR x j := by
  unfold f_X6_dropOne
  rw [oR_mk]
  by_cases e : j = 3
  · rw [e, upd_at, if_pos rfl, dr_row hkc (by omega), if_neg (by omega)]
  · rw [upd_ne _ _ e, if_neg e, dr_row hkc (by omega)]
theorem drop_ok {x : MoC} {nn mm kk kc : Nat} (hn : nn ≤ 7) (hm : mm ≤ 8) (hkc : kc < kk) (h : RowOk x nn mm kk) : RowOk (f_X6_dropOne x nn mm kk kc) nn mm (kk - 1) := by
  obtain ⟨h0, h1, h3, hk, hc, hb⟩ := h
  have e : ∀ j, j ≠ 3 → j < 84 + 9 * kc → oR (f_X6_dropOne x nn mm kk kc) j = oR x j := fun j j3 hj => by rw [dropOne_at (by omega), if_neg j3, if_neg (by omega)]
  refine ⟨(e 0 (by decide) (by omega)).trans h0, (e 1 (by decide) (by omega)).trans h1, ?_, by omega, ?_, ?_⟩
  · rw [dropOne_at (by omega), if_pos rfl, h3]; exact pk_sub (show 1 ≤ kk by omega)
  · intro k hk2 hr
    by_cases q : k < kc
    · rw [e _ (by omega) (by omega)] at hr ⊢
      exact hc k (by omega) hr
    · have e9 : oR (f_X6_dropOne x nn mm kk kc) (84 + 9 * k) = oR x (84 + 9 * (k + 1)) := by
        rw [dropOne_at (by omega), if_neg (by omega), if_pos (by omega), if_pos (by omega)]
        exact congrArg (oR x) (by omega)
      rw [e9] at hr ⊢
      exact hc (k + 1) (by omega) hr
  · intro h4 cn hcn
    rw [e 4 (by decide) (by omega)] at h4 ⊢
    exact srv_re (x := x) (kk := kk) (fun j _ _ => e j (by omega) (by omega)) hn (by omega) (hb h4 cn hcn)
