/-! ===== exclude, undo, the snapshot, the text ===== -/
theorem small {v : Int32} (h : ∀ i, 7 ≤ i → i < 32 → bt v i = false) : ∃ p, p < 128 ∧ v = nI p := by
  refine ⟨(v.toBitVec.setWidth 7).toNat, (v.toBitVec.setWidth 7).isLt, b_ext (fun i hi => ?_)⟩
  rw [bt_lt _ (v.toBitVec.setWidth 7).isLt i hi]
  have e : (v.toBitVec.setWidth 7).getLsbD i = decide ((v.toBitVec.setWidth 7).toNat / 2 ^ i % 2 = 1) := by
    rw [← BitVec.testBit_toNat, Nat.testBit_eq_decide_div_mod_eq]
  rw [← e, BitVec.getLsbD_setWidth]
  by_cases q : i < 7
  · simp [q, bt]
  · rw [h i (by omega) hi]; simp [q]
section RelG
variable {nn mm kk : Nat} {z z2 : SoC} {x x2 : PlC} {u u2 : CuC} {y : MoC} {w : ZoC} {ho : HoC} {sg : Nat → Nat} {hs : Nat → StC} {tx : TxC}
set_option maxRecDepth 100000 in
theorem w_exclude (h : RelS nn mm kk z x u (oR y)) (hh : RelH ho sg hs (oS y) (oP y)) (site other : Int32) (is : Bool) : W7 (f_X5_exclude w z x u ho sg hs site other is) (f_X6_exclude y nn mm kk site other is) := by
  have hp := h.1
  have hn := hp.1.1
  have hm := hp.1.2.1
  unfold f_X5_exclude f_X6_exclude
  rw [show f_X3_isSite x site = cl (pN x) site from rfl, show f_X6_noSite y nn mm kk site = cm nn site from rfl, show f_X3_isSite x other = cl (pN x) other from rfl, show f_X6_noSite y nn mm kk other = cm nn other from rfl, hp.1.2.2.1]
  rcases cl_in (show nn < 2 ^ 31 by omega) site with ⟨s, hs, rfl, e3, e4⟩ | ⟨e3, e4⟩
  · rw [e3, e4, if_pos tt, if_neg ff, tn_nI (show s < 2 ^ 31 by omega)]
    rcases cl_in (show nn < 2 ^ 31 by omega) other with ⟨g, hg, rfl, e5, e6⟩ | ⟨e5, e6⟩
    · rw [e5, e6, if_pos tt, if_neg ff, tn_nI (show g < 2 ^ 31 by omega)]
      by_cases c1 : s = g
      · rw [if_pos c1, if_pos c1]; exact W7.same h hh _
      · rw [if_neg c1, if_neg c1]
        have eA : f_X3_areExcluding x s g = f_X6_isIn (oR y (77 + s)) (nI g) := by
          unfold f_X3_areExcluding
          rw [hp.2.2.2.2.2.2.1 s hs, isIn_c (by omega), isIn_m (by omega)]
        rw [eA]
        by_cases c2 : b01 (f_X6_isIn (oR y (77 + s)) (nI g)) = b01 is
        · rw [if_pos c2, if_pos c2]; exact W7.same h hh _
        · rw [if_neg c2, if_neg c2]
          have r6 : ∀ j, j ≠ 4 → j ≠ 77 + g → j ≠ 77 + s → upd (upd (upd (oR y) (77 + s) (oR y (77 + s) ^^^ nI (2 ^ g))) (77 + g) (oR y (77 + g) ^^^ nI (2 ^ s))) 4 (-5) j = oR y j := fun j q1 q2 q3 => (upd_ne _ _ q1).trans ((upd_ne _ _ q2).trans (upd_ne _ _ q3))
          have rg : upd (upd (upd (oR y) (77 + s) (oR y (77 + s) ^^^ nI (2 ^ g))) (77 + g) (oR y (77 + g) ^^^ nI (2 ^ s))) 4 (-5) (77 + g) = oR y (77 + g) ^^^ nI (2 ^ s) := (upd_ne _ _ (by omega)).trans (upd_at _ _ _)
          have rs : upd (upd (upd (oR y) (77 + s) (oR y (77 + s) ^^^ nI (2 ^ g))) (77 + g) (oR y (77 + g) ^^^ nI (2 ^ s))) 4 (-5) (77 + s) = oR y (77 + s) ^^^ nI (2 ^ g) := (upd_ne _ _ (by omega)).trans ((upd_ne _ _ (by omega)).trans (upd_at _ _ _))
          have ep : pE (f_X3_turnExclusion x s g) = upd (upd (pE x) s (oR y (77 + s) ^^^ nI (2 ^ g))) g (oR y (77 + g) ^^^ nI (2 ^ s)) := by
            unfold f_X3_turnExclusion
            rw [hp.2.2.2.2.2.2.1 s hs, hp.2.2.2.2.2.2.1 g hg]
          have bx : ∀ a b i, b < 7 → i < 32 → bt (oR y (77 + a) ^^^ nI (2 ^ b)) i = (bt (oR y (77 + a)) i ^^ decide (i = b)) := fun a b i hb hi => by rw [b_xor, bt_pow b (by omega) i hi]
          have hbit : ∀ i, 7 ≤ i → i < 32 → bt (oR y (77 + s) ^^^ nI (2 ^ g)) i = false := by
            intro i h7 hi
            rw [bx s g i (by omega) hi]
            cases e1 : bt (oR y (77 + s)) i with
            | false => simp; omega
            | true => exact absurd (hp.2.2.2.2.2.2.2 s i (by omega) hi e1).2.1 (by omega)
          obtain ⟨p, hp128, hpe⟩ := small hbit
          refine ⟨?_, ⟨nn, mm, kk, ?_, ?_, ?_⟩, RelH.begin hh h⟩
          · show f_J6_bitCount_0f7a4 (pE (f_X3_turnExclusion x s g) s) = f_X6_many (oR y (77 + s) ^^^ nI (2 ^ g))
            rw [ep, upd_ne _ _ c1, upd_at, hpe]
            exact bc_many p hp128
          · obtain ⟨⟨a1, a2, a3, a4⟩, ⟨b1, b2, b3⟩, d1, d2, d3, d4, d5, d6⟩ := hp
            show RelP nn mm _ (upd (upd (upd (oR y) (77 + s) (oR y (77 + s) ^^^ nI (2 ^ g))) (77 + g) (oR y (77 + g) ^^^ nI (2 ^ s))) 4 (-5))
            refine ⟨⟨a1, a2, rfl, a4⟩, ⟨(r6 0 (by omega) (by omega) (by omega)).trans b1, (r6 1 (by omega) (by omega) (by omega)).trans b2, b3.trans (r6 2 (by omega) (by omega) (by omega)).symm⟩, ?_, ?_, ?_, ?_, ?_, ?_⟩
            · intro k hk; rw [r6 _ (by omega) (by omega) (by omega)]; exact d1 k hk
            · intro c hc; rw [r6 _ (by omega) (by omega) (by omega)]; exact d2 c hc
            · intro k c hk hc; rw [r6 _ (by omega) (by omega) (by omega)]; exact d3 k c hk hc
            · intro k c hk hc q; rw [r6 _ (by omega) (by omega) (by omega)]; exact d4 k c hk hc q
            · intro k hk
              show pE (f_X3_turnExclusion x s g) k = _
              rw [ep]
              by_cases e : k = g
              · rw [e, upd_at, rg]
              · rw [upd_ne _ _ e]
                by_cases e2 : k = s
                · rw [e2, upd_at, rs]
                · rw [upd_ne _ _ e2, r6 _ (by omega) (by omega) (by omega)]; exact d5 k hk
            · have hnew : ∀ a i, a < 7 → i < 32 → bt (upd (upd (upd (oR y) (77 + s) (oR y (77 + s) ^^^ nI (2 ^ g))) (77 + g) (oR y (77 + g) ^^^ nI (2 ^ s))) 4 (-5) (77 + a)) i = (bt (oR y (77 + a)) i ^^ (decide (a = s ∧ i = g) || decide (a = g ∧ i = s))) := by
                intro a i ha hi
                by_cases e : a = g
                · rw [e, rg, bx g s i (by omega) hi]
                  simp [show ¬ g = s from fun q => c1 q.symm]
                · by_cases e2 : a = s
                  · rw [e2, rs, bx s g i (by omega) hi]
                    simp [c1]
                  · rw [r6 _ (by omega) (by omega) (by omega)]
                    simp [e, e2]
              intro k j hk hj
              rw [hnew k j hk hj]
              intro hb
              by_cases q1 : k = s ∧ j = g
              · obtain ⟨rfl, rfl⟩ := q1
                refine ⟨hs, hg, fun e => c1 e.symm, ?_⟩
                rw [hnew j k (by omega) (by omega)]
                simp [c1] at hb
                simp
                cases e1 : bt (oR y (77 + j)) k with
                | false => rfl
                | true => rw [(d6 j k (by omega) (by omega) e1).2.2.2] at hb; exact absurd hb (by decide)
              · by_cases q2 : k = g ∧ j = s
                · obtain ⟨rfl, rfl⟩ := q2
                  refine ⟨hg, hs, fun e => c1 e, ?_⟩
                  rw [hnew j k (by omega) (by omega)]
                  simp [c1] at hb
                  simp
                  cases e1 : bt (oR y (77 + j)) k with
                  | false => rfl
                  | true => rw [(d6 j k (by omega) (by omega) e1).2.2.2] at hb; exact absurd hb (by decide)
                · have hb2 : bt (oR y (77 + k)) j = true := by simpa [q1, q2] using hb
                  obtain ⟨t1, t2, t3, t4⟩ := d6 k j hk hj hb2
                  refine ⟨t1, t2, t3, ?_⟩
                  rw [hnew j k (by omega) (by omega), t4]
                  have n1 : ¬ (j = s ∧ k = g) := fun q => q2 ⟨q.2, q.1⟩
                  have n2 : ¬ (j = g ∧ k = s) := fun q => q1 ⟨q.2, q.1⟩
                  simp [n1, n2]
          · exact h.2.1.cg hn hm (r6 3 (by omega) (by omega) (by omega)) (fun i hi => r6 _ (by omega) (by omega) (by omega)) (fun s i hs hi => r6 _ (by omega) (by omega) (by omega)) (fun j hj _ => r6 _ (by omega) (by omega) (by omega))
          · exact ⟨h.2.2.1.trans (r6 5 (by omega) (by omega) (by omega)).symm, Or.inl ⟨rfl, upd_at (upd (upd (oR y) (77 + s) (oR y (77 + s) ^^^ nI (2 ^ g))) (77 + g) (oR y (77 + g) ^^^ nI (2 ^ s))) 4 (-5)⟩⟩
    · rw [e5, e6, if_neg ff, if_pos tt]; exact W7.same h hh _
  · rw [e3, e4, if_neg ff, if_pos tt]; exact W7.same h hh _
theorem un_22 {y : MoC} : ∀ (d i : Nat) (v : Nat → Int32) (j : Nat), l_X6_undo_22 y d i v j = if i ≤ j ∧ j < i + d then oP y (444 * (oS y - 1) + j) else v j := by
  intro d
  induction d with
  | zero => intro i v j; rw [l_X6_undo_22, if_neg (by omega)]
  | succ d ih =>
    intro i v j
    rw [l_X6_undo_22, ih]
    by_cases q : i + 1 ≤ j ∧ j < i + 1 + d
    · rw [if_pos q, if_pos (by omega)]
    · rw [if_neg q]
      by_cases e : j = i
      · rw [e, upd_at, if_pos (by omega)]
      · rw [upd_ne _ _ e, if_neg (by omega)]
theorem re_16 {y : MoC} : ∀ (d i : Nat) (v : Nat → Int32) (j : Nat), l_X6_restore_16 y d i v j = if i ≤ j ∧ j < i + d then oA y j else v j := by
  intro d
  induction d with
  | zero => intro i v j; rw [l_X6_restore_16, if_neg (by omega)]
  | succ d ih =>
    intro i v j
    rw [l_X6_restore_16, ih]
    by_cases q : i + 1 ≤ j ∧ j < i + 1 + d
    · rw [if_pos q, if_pos (by omega)]
    · rw [if_neg q]
      by_cases e : j = i
      · rw [e, upd_at, if_pos (by omega)]
      · rw [upd_ne _ _ e, if_neg (by omega)]
theorem ke_2 {y : MoC} : ∀ (d i : Nat) (v : Nat → Int32) (j : Nat), l_X6_keep_2 y d i v j = if i ≤ j ∧ j < i + d then oR y j else v j := by
  intro d
  induction d with
  | zero => intro i v j; rw [l_X6_keep_2, if_neg (by omega)]
  | succ d ih =>
    intro i v j
    rw [l_X6_keep_2, ih]
    by_cases q : i + 1 ≤ j ∧ j < i + 1 + d
    · rw [if_pos q, if_pos (by omega)]
    · rw [if_neg q]
      by_cases e : j = i
      · rw [e, upd_at, if_pos (by omega)]
      · rw [upd_ne _ _ e, if_neg (by omega)]
theorem gb_2 {y : MoC} : ∀ (d i : Nat) (v : Nat → Int32) (j : Nat), l_X6_goBack_2 y d i v j = if i ≤ j ∧ j < i + d then oB y j else v j := by
  intro d
  induction d with
  | zero => intro i v j; rw [l_X6_goBack_2, if_neg (by omega)]
  | succ d ih =>
    intro i v j
    rw [l_X6_goBack_2, ih]
    by_cases q : i + 1 ≤ j ∧ j < i + 1 + d
    · rw [if_pos q, if_pos (by omega)]
    · rw [if_neg q]
      by_cases e : j = i
      · rw [e, upd_at, if_pos (by omega)]
      · rw [upd_ne _ _ e, if_neg (by omega)]
set_option maxRecDepth 100000 in
theorem w_undo (h : RelS nn mm kk z x u (oR y)) (hh : RelH ho sg hs (oS y) (oP y)) : W7 (f_X5_undo w z x u ho sg hs) (f_X6_undo y) := by
  unfold f_X5_undo f_X6_undo
  by_cases c : oS y = 0
  · rw [if_pos (hh.1.trans c), if_pos c]; exact W7.same h hh _
  · have hc : ¬ hA ho = 0 := fun e => c (hh.1.symm.trans e)
    rw [if_neg hc, if_neg c]
    have et : f_X2_takeLatest ho sg hs z x u = (mkH (hA ho - 1), (f_X4_copyFrom z x u (soOf (hs (sg (hA ho - 1)))) (sP (hs (sg (hA ho - 1)))) (sK (hs (sg (hA ho - 1))))).1, (f_X4_copyFrom z x u (soOf (hs (sg (hA ho - 1)))) (sP (hs (sg (hA ho - 1)))) (sK (hs (sg (hA ho - 1))))).2.1, (f_X4_copyFrom z x u (soOf (hs (sg (hA ho - 1)))) (sP (hs (sg (hA ho - 1)))) (sK (hs (sg (hA ho - 1))))).2.2) := if_pos (by omega)
    rw [et]
    obtain ⟨h1, h2, h3, h4, h5⟩ := hh
    obtain ⟨n1, m1, k1, hr⟩ := h5 (oS y - 1) (by omega)
    rw [← h1] at hr
    refine ⟨congrArg (fun n => nI (n - 1)) h1, ⟨n1, m1, k1, ?_⟩, congrArg (· - 1) h1, by show oS y - 1 ≤ 4; omega, h3, h4, fun j hj => h5 j (by have : j < oS y - 1 := hj; omega)⟩
    refine (RelS.copy (so := z) (x := x) (y := u) hr).cg (fun j hj => ?_)
    show l_X6_undo_22 y 444 0 (oR y) j = oP y (444 * (hA ho - 1) + j)
    rw [un_22, if_pos (by omega), h1]
def RelQ (w : ZoC) (z2 : SoC) (x2 : PlC) (u2 : CuC) (is : Int32) (aside : Nat → Int32) : Prop := zS w = is ∧ (¬ is = 0 → ∃ nn mm kk, RelS nn mm kk z2 x2 u2 aside)
set_option maxRecDepth 100000 in
theorem w_restore (h : RelS nn mm kk z x u (oR y)) (hh : RelH ho sg hs (oS y) (oP y)) (hq : RelQ w z2 x2 u2 (oI y) (oA y)) : W7 (f_X5_restore w z x u ho sg hs z2 x2 u2) (f_X6_restore y) := by
  unfold f_X5_restore f_X6_restore
  rw [hq.1]
  by_cases c : oI y = 0
  · rw [if_pos c, if_pos c]; exact W7.same h hh _
  · rw [if_neg c, if_neg c]
    obtain ⟨n1, m1, k1, hr⟩ := hq.2 c
    have hr2 := RelS.copy (so := z) (x := x) (y := u) hr
    refine ⟨?_, ⟨n1, m1, k1, hr2.cg (fun j hj => ?_)⟩, RelH.begin hh h⟩
    · show nI (kA (f_X4_copyFrom z x u z2 x2 u2).2.2) = l_X6_restore_16 y 444 0 (oR y) 3
      rw [re_16, if_pos (by omega), hr2.2.1.2.1]
      exact hr2.2.1.2.2.1.symm
    · show l_X6_restore_16 y 444 0 (oR y) j = oA y j
      rw [re_16, if_pos (by omega)]
set_option maxRecDepth 100000 in
theorem w_keep (h : RelS nn mm kk z x u (oR y)) : (f_X5_keep w z x u z2 x2 u2).1 = (f_X6_keep y).1 ∧ RelQ (f_X5_keep w z x u z2 x2 u2).2.1 (f_X5_keep w z x u z2 x2 u2).2.2.1 (f_X5_keep w z x u z2 x2 u2).2.2.2.1 (f_X5_keep w z x u z2 x2 u2).2.2.2.2 (oI (f_X6_keep y).2) (oA (f_X6_keep y).2) := by
  unfold f_X5_keep f_X6_keep
  refine ⟨?_, rfl, fun _ => ⟨nn, mm, kk, (RelS.copy (so := z2) (x := x2) (y := u2) h).cg (fun j hj => ?_)⟩⟩
  · show nI (kA u) = oR y 3
    rw [h.2.1.2.1]; exact h.2.1.2.2.1.symm
  · show l_X6_keep_2 y 444 0 (oA y) j = oR y j
    rw [ke_2, if_pos (by omega)]
def RelT (tx : TxC) (ln : Nat) (txt : Nat → Int32) : Prop := tL tx = ln ∧ ln ≤ 60 ∧ ∀ j, j < ln → tC tx j = txt j
theorem w_type (h : RelT tx (oL y) (oX y)) (ch : Int32) : (f_X5_type w tx ch).1 = (f_X6_type y ch).1 ∧ RelT (f_X5_type w tx ch).2 (oL (f_X6_type y ch).2) (oX (f_X6_type y ch).2) := by
  obtain ⟨h1, h2, h3⟩ := h
  unfold f_X5_type f_X6_type f_X0_isFull
  by_cases c : oL y = 60
  · rw [if_neg (show ¬ tL tx < 60 by omega), if_pos tt, if_pos c]; exact ⟨rfl, h1, h2, h3⟩
  · have hlt : tL tx < 60 := by omega
    rw [if_pos hlt, if_neg ff, if_neg c]
    have ea : f_X0_append tx ch = mkX (upd (tC tx) (tL tx) (vp_nar .char ch)) (tL tx + 1) := if_pos hlt
    rw [ea]
    refine ⟨?_, ?_, ?_, fun j hj => ?_⟩
    · show nI (tL tx + 1) = nI (oL y + 1); rw [h1]
    · show tL tx + 1 = oL y + 1; rw [h1]
    · show oL y + 1 ≤ 60; omega
    · show upd (tC tx) (tL tx) (vp_nar .char ch) j = upd (oX y) (oL y) (vp_nar .char ch) j
      have hj2 : j < oL y + 1 := hj
      rw [h1]
      by_cases e : j = oL y
      · rw [e, upd_at, upd_at]
      · rw [upd_ne _ _ e, upd_ne _ _ e]; exact h3 j (by omega)
theorem w_clear (h : RelT tx (oL y) (oX y)) : (f_X5_clearText w tx).1 = (f_X6_clearText y).1 ∧ RelT (f_X5_clearText w tx).2 (oL (f_X6_clearText y).2) (oX (f_X6_clearText y).2) := by
  refine ⟨?_, rfl, ?_, fun j hj => absurd hj (Nat.not_lt_zero j)⟩
  · show nI (tL tx) = nI (oL y); rw [h.1]
  · show 0 ≤ 60; omega
end RelG
