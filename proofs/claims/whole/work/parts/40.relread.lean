/-! ===== readCut; the start ===== -/
section RelM
variable {nn mm kk : Nat} {z z1 : SoC} {x x1 : PlC} {u u1 : CuC} {y : MoC} {w : ZoC} {ho : HoC} {sg : Nat → Nat} {hs : Nat → StC} {nu : Nat → Int32} {tx : TxC}
theorem dg_at (ht : RelT tx (oL y) (oX y)) (a : Nat) (n9 : Nat → Int32) : f_X0_isDigitAt tx a = f_X6_sees (mkM (oR y) (oP y) (oA y) (oB y) (oS y) (oI y) (oX y) (oL y) a n9) (nI 48) (nI 57) := by
  unfold f_X0_isDigitAt f_X6_sees f_X6_in
  rw [if_neg (Nat.not_lt_zero a), ht.1]
  show _ = (if a < oL y then (if (if oX y a < nI 48 then false else if nI 57 < oX y a then false else true) = true then true else false) else false)
  by_cases c : a < oL y
  · rw [if_pos c, if_pos c, ht.2.2 a c]
    by_cases c1 : oX y a < nI 48
    · rw [if_pos c1]; rfl
    · rw [if_neg c1]
      by_cases c2 : nI 57 < oX y a
      · rw [if_pos c2]; rfl
      · rw [if_neg c2]; rfl
  · rw [if_neg c, if_neg c]
theorem cm_at (ht : RelT tx (oL y) (oX y)) (a : Nat) (n9 : Nat → Int32) : f_X0_isCommaAt tx a = f_X6_sees (mkM (oR y) (oP y) (oA y) (oB y) (oS y) (oI y) (oX y) (oL y) a n9) (nI 44) (nI 44) := by
  unfold f_X0_isCommaAt f_X6_sees f_X6_in
  rw [if_neg (Nat.not_lt_zero a), ht.1]
  show _ = (if a < oL y then (if (if oX y a < nI 44 then false else if nI 44 < oX y a then false else true) = true then true else false) else false)
  by_cases c : a < oL y
  · rw [if_pos c, if_pos c, ht.2.2 a c]
    by_cases c0 : oX y a = nI 44
    · rw [if_pos c0, c0, if_neg (show ¬ nI 44 < nI 44 by decide), if_neg (show ¬ nI 44 < nI 44 by decide)]; rfl
    · rw [if_neg c0]
      by_cases c1 : oX y a < nI 44
      · rw [if_pos c1]; rfl
      · have c2 : nI 44 < oX y a := by
          have : (oX y a).toInt ≠ (nI 44).toInt := fun e => c0 (Int32.toInt_inj.mp e)
          rw [i_lt] at c1 ⊢
          omega
        rw [if_neg c1, if_pos c2]; rfl
  · rw [if_neg c, if_neg c]
theorem sees_d {a : Nat} {n9 : Nat → Int32} (h : f_X6_sees (mkM (oR y) (oP y) (oA y) (oB y) (oS y) (oI y) (oX y) (oL y) a n9) (nI 48) (nI 57) = true) : a < oL y ∧ rB (oX y a - nI 48) 0 9 := by
  unfold f_X6_sees f_X6_in at h
  have h : (if a < oL y then (if (if oX y a < nI 48 then false else if nI 57 < oX y a then false else true) = true then true else false) else false) = true := h
  by_cases c : a < oL y
  · refine ⟨c, ?_⟩
    rw [if_pos c] at h
    by_cases c1 : oX y a < nI 48
    · rw [if_pos c1] at h; exact absurd h (by decide)
    · rw [if_neg c1] at h
      by_cases c2 : nI 57 < oX y a
      · rw [if_pos c2] at h; exact absurd h (by decide)
      · have t48 : (nI 48).toInt = 48 := by decide
        have t57 : (nI 57).toInt = 57 := by decide
        rw [i_lt, t48] at c1
        rw [i_lt, t57] at c2
        unfold rB
        rw [i_sub (by omega) (by omega), t48]
        omega
  · rw [if_neg c] at h; exact absurd h (by decide)
theorem sees_c {a : Nat} {n9 : Nat → Int32} (h : f_X6_sees (mkM (oR y) (oP y) (oA y) (oB y) (oS y) (oI y) (oX y) (oL y) a n9) (nI 44) (nI 44) = true) : a < oL y := sees_lt h
theorem dig_v (ht : RelT tx (oL y) (oX y)) {a : Nat} {n9 : Nat → Int32} (h : f_X6_sees (mkM (oR y) (oP y) (oA y) (oB y) (oS y) (oI y) (oX y) (oL y) a n9) (nI 48) (nI 57) = true) : f_X0_digitAt tx a = oX y a - nI 48 := by
  unfold f_X0_digitAt
  rw [dg_at ht a n9, if_pos h, ht.2.2 a (sees_d h).1]
theorem two_b {a b : Int32} (ha : rB a 0 9) (hb : rB b 0 9) : rB (a * nI 10 + b) 0 99 := by
  obtain ⟨a1, a2⟩ := ha
  obtain ⟨b1, b2⟩ := hb
  have t10 : (nI 10).toInt = 10 := by decide
  have em : (a * nI 10).toInt = a.toInt * 10 := by rw [i_mul (by rw [t10]; omega) (by rw [t10]; omega), t10]
  unfold rB
  rw [i_add (by rw [em]; omega) (by rw [em]; omega), em]
  omega
def RN (mm : Nat) (A : Int32 × (Nat → Int32)) (B : Bool × MoC) : Prop := (A.1 = (-1) ∧ B.1 = true ∧ ∀ j, j < mm → A.2 j = oN B.2 j ∧ rB (A.2 j) 0 99) ∨ ∃ t, t < 2 ^ 31 ∧ A.1 = nI t ∧ B.1 = false ∧ oT B.2 = t
theorem rn_loop (ht : RelT tx (oL y) (oX y)) : ∀ (d i a : Nat) (v v' : Nat → Int32), i + d = mm → a ≤ oL y → (∀ j, j < i → v j = v' j ∧ rB (v j) 0 99) → RN mm (l_X0_readNumbers_5 tx nu mm d i a v) (l_X6_readNumbers_7 y nn mm kk d i a v') := by
  have h60 := ht.2.1
  intro d
  induction d with
  | zero =>
    intro i a v v' hid ha hv
    rw [l_X0_readNumbers_5, l_X6_readNumbers_7, ht.1]
    by_cases c : a = oL y
    · rw [if_neg (by omega), if_pos c]; exact Or.inl ⟨rfl, rfl, fun j hj => hv j (by omega)⟩
    · rw [if_pos (by omega), if_neg c]; exact Or.inr ⟨a, by omega, rfl, rfl, rfl⟩
  | succ d ih =>
    intro i a v v' hid ha hv
    have put : ∀ (q q' : Int32) (a' : Nat), q = q' → rB q 0 99 → a' ≤ oL y → RN mm (l_X0_readNumbers_5 tx nu mm d (i + 1) a' (upd v i q)) (l_X6_readNumbers_7 y nn mm kk d (i + 1) a' (upd v' i q')) := by
      intro q q' a' hq hb ha'
      refine ih (i + 1) a' _ _ (by omega) ha' (fun j hj => ?_)
      by_cases e : j = i
      · rw [e, upd_at, upd_at]; exact ⟨hq, hb⟩
      · rw [upd_ne _ _ e, upd_ne _ _ e]; exact hv j (by omega)
    have num : ∀ a, a ≤ oL y → RN mm (if (f_X0_isDigitAt tx a) = true then (if (f_X0_digitAt tx a) = 0 then l_X0_readNumbers_5 tx nu mm d (i + 1) (a + 1) (upd v i (f_X0_digitAt tx a)) else (if (f_X0_isDigitAt tx (a + 1)) = true then l_X0_readNumbers_5 tx nu mm d (i + 1) (a + 1 + 1) (upd v i (((f_X0_digitAt tx a) * (nI 10)) + (f_X0_digitAt tx (a + 1)))) else l_X0_readNumbers_5 tx nu mm d (i + 1) (a + 1) (upd v i (f_X0_digitAt tx a)))) else (nI a, v)) (if (f_X6_sees (mkM (oR y) (oP y) (oA y) (oB y) (oS y) (oI y) (oX y) (oL y) a v') (nI 48) (nI 57)) = true then (if 0 < ((oX y a) - (nI 48)) then (if (f_X6_sees (mkM (oR y) (oP y) (oA y) (oB y) (oS y) (oI y) (oX y) (oL y) (a + 1) v') (nI 48) (nI 57)) = true then l_X6_readNumbers_7 y nn mm kk d (i + 1) (a + 1 + 1) (upd v' i ((((nI 10) * ((oX y a) - (nI 48))) + (oX y (a + 1))) - (nI 48))) else l_X6_readNumbers_7 y nn mm kk d (i + 1) (a + 1) (upd v' i ((oX y a) - (nI 48)))) else l_X6_readNumbers_7 y nn mm kk d (i + 1) (a + 1) (upd v' i ((oX y a) - (nI 48)))) else (false, mkM (oR y) (oP y) (oA y) (oB y) (oS y) (oI y) (oX y) (oL y) a v')) := by
      intro a ha
      rw [dg_at ht a v', dg_at ht (a + 1) v']
      by_cases c : f_X6_sees (mkM (oR y) (oP y) (oA y) (oB y) (oS y) (oI y) (oX y) (oL y) a v') (nI 48) (nI 57) = true
      · obtain ⟨hlt, hb⟩ := sees_d c
        rw [if_pos c, if_pos c, dig_v ht c]
        have h99 : rB (oX y a - nI 48) 0 99 := ⟨hb.1, by have := hb.2; omega⟩
        by_cases c0 : oX y a - nI 48 = 0
        · rw [if_pos c0, if_neg (by rw [c0]; decide)]
          exact put _ _ _ rfl h99 (by omega)
        · have hpos : 0 < oX y a - nI 48 := by
            have hne : (oX y a - nI 48).toInt ≠ (0 : Int32).toInt := fun e => c0 (Int32.toInt_inj.mp e)
            have e0 : (0 : Int32).toInt = 0 := by decide
            have hb1 := hb.1
            rw [e0] at hne
            rw [i_lt, e0]
            omega
          rw [if_neg c0, if_pos hpos]
          by_cases c2 : f_X6_sees (mkM (oR y) (oP y) (oA y) (oB y) (oS y) (oI y) (oX y) (oL y) (a + 1) v') (nI 48) (nI 57) = true
          · obtain ⟨hlt2, hb2⟩ := sees_d c2
            rw [if_pos c2, if_pos c2, dig_v ht c2]
            exact put _ _ _ (by grind) (two_b hb hb2) (by omega)
          · rw [if_neg c2, if_neg c2]
            exact put _ _ _ rfl h99 (by omega)
      · rw [if_neg c, if_neg c]
        exact Or.inr ⟨a, by omega, rfl, rfl, rfl⟩
    rw [l_X0_readNumbers_5, l_X6_readNumbers_7]
    by_cases c0 : 0 < i
    · rw [if_pos c0, if_pos c0, cm_at ht a v']
      by_cases c1 : f_X6_sees (mkM (oR y) (oP y) (oA y) (oB y) (oS y) (oI y) (oX y) (oL y) a v') (nI 44) (nI 44) = true
      · have := sees_c c1
        rw [if_pos c1, if_pos c1]
        exact num (a + 1) (by omega)
      · rw [if_neg c1, if_neg c1]
        exact Or.inr ⟨a, by omega, rfl, rfl, rfl⟩
    · rw [if_neg c0, if_neg c0]
      exact num a ha
theorem rc_63 : ∀ (d i : Nat) (v : Nat → Int32) (j : Nat), l_X6_readCut_63 y nn mm kk d i v j = if 85 + 9 * kk + i ≤ j ∧ j < 85 + 9 * kk + i + d then oN (f_X6_readNumbers y nn mm kk).2 (j - (85 + 9 * kk)) else v j := by
  intro d
  induction d with
  | zero => intro i v j; rw [l_X6_readCut_63, if_neg (by omega)]
  | succ d ih =>
    intro i v j
    rw [l_X6_readCut_63, ih]
    by_cases q : 85 + 9 * kk + (i + 1) ≤ j ∧ j < 85 + 9 * kk + (i + 1) + d
    · rw [if_pos q, if_pos (by omega)]
    · rw [if_neg q]
      by_cases e : j = 84 + 9 * kk + 1 + i
      · rw [e, upd_at, if_pos (by omega)]; exact congrArg _ (by omega)
      · rw [upd_ne _ _ e, if_neg (by omega)]
def W8 (a : Int32 × SoC × PlC × CuC × HoC × (Nat → Nat) × (Nat → StC) × (Nat → Int32)) (b : Int32 × MoC) : Prop := a.1 = b.1 ∧ (∃ n m k, RelS n m k a.2.1 a.2.2.1 a.2.2.2.1 (oR b.2)) ∧ RelH a.2.2.2.2.1 a.2.2.2.2.2.1 a.2.2.2.2.2.2.1 (oS b.2) (oP b.2)
set_option maxRecDepth 100000 in
theorem w_readCut (h : RelS nn mm kk z x u (oR y)) (hh : RelH ho sg hs (oS y) (oP y)) (ht : RelT tx (oL y) (oX y)) : W8 (f_X5_readCut w z x u ho sg hs tx nu) (f_X6_readCut y nn mm kk) := by
  have hn := h.1.1.1
  have hm := h.1.1.2.1
  have hk := h.2.1.1
  have hA := h.2.1.2.1
  have hN : RN mm (f_X0_readNumbers tx nu mm) (f_X6_readNumbers y nn mm kk) := rn_loop ht mm 0 0 nu (oN y) (by omega) (Nat.zero_le _) (fun j hj => absurd hj (Nat.not_lt_zero j))
  unfold f_X5_readCut f_X6_readCut
  rw [h.1.1.2.2.2]
  by_cases c1 : mm = 0
  · rw [if_pos c1, if_pos c1]; exact ⟨rfl, ⟨nn, mm, kk, h⟩, hh⟩
  · rw [if_neg c1, if_neg c1]
    rcases hN with ⟨n1, n2, n3⟩ | ⟨t, t1, n1, n2, n3⟩
    · rw [if_pos n1, if_pos n2]
      unfold f_X1_isFull
      rw [hA]
      by_cases c5 : kk = 40
      · rw [if_neg (show ¬ kk < 40 by omega), if_pos tt, if_pos c5]; exact ⟨rfl, ⟨nn, mm, kk, h⟩, hh⟩
      · rw [if_pos (show kk < 40 by omega), if_neg ff, if_neg c5]
        have lo : ∀ j, j ≠ 3 → j < 84 + 9 * kk → upd (l_X6_readCut_63 y nn mm kk mm 0 (upd (oR y) (84 + 9 * kk) (-5))) 3 (l_X6_readCut_63 y nn mm kk mm 0 (upd (oR y) (84 + 9 * kk) (-5)) 3 + nI 1) j = oR y j := fun j h3 hj => by rw [upd_ne _ _ h3, rc_63, if_neg (by omega), upd_ne _ _ (by omega)]
        have e3 : upd (l_X6_readCut_63 y nn mm kk mm 0 (upd (oR y) (84 + 9 * kk) (-5))) 3 (l_X6_readCut_63 y nn mm kk mm 0 (upd (oR y) (84 + 9 * kk) (-5)) 3 + nI 1) 3 = nI (kk + 1) := by
          rw [upd_at, rc_63, if_neg (by omega), upd_ne _ _ (by omega), h.2.1.2.2.1]; exact nI_add kk 1
        have eq : upd (l_X6_readCut_63 y nn mm kk mm 0 (upd (oR y) (84 + 9 * kk) (-5))) 3 (l_X6_readCut_63 y nn mm kk mm 0 (upd (oR y) (84 + 9 * kk) (-5)) 3 + nI 1) (84 + 9 * kk) = (-5) := by
          rw [upd_ne _ _ (by omega), rc_63, if_neg (by omega), upd_at]
        have eu : ∀ c, c < mm → upd (l_X6_readCut_63 y nn mm kk mm 0 (upd (oR y) (84 + 9 * kk) (-5))) 3 (l_X6_readCut_63 y nn mm kk mm 0 (upd (oR y) (84 + 9 * kk) (-5)) 3 + nI 1) (85 + 9 * kk + c) = oN (f_X6_readNumbers y nn mm kk).2 c := by
          intro c hc
          rw [upd_ne _ _ (by omega), rc_63, if_pos (by omega)]; exact congrArg _ (by omega)
        have gP : RelP nn mm x (upd (l_X6_readCut_63 y nn mm kk mm 0 (upd (oR y) (84 + 9 * kk) (-5))) 3 (l_X6_readCut_63 y nn mm kk mm 0 (upd (oR y) (84 + 9 * kk) (-5)) 3 + nI 1)) := h.1.cg (fun q hq h3 _ _ => lo q h3 (by omega))
        obtain ⟨gK, gA⟩ := RelK.price (nu := (f_X0_readNumbers tx nu mm).2) h.2.1 gP (by omega) (fun q h6 hq => lo q (by omega) hq) e3 eq (fun c hc => by rw [eu c hc]; exact ⟨(n3 c hc).1, by rw [← (n3 c hc).1]; exact (n3 c hc).2⟩)
        refine ⟨gA, ⟨nn, mm, kk + 1, gP, gK, h.2.2.cg rfl rfl (lo 4 (by decide) (by omega)) (lo 5 (by decide) (by omega)) (fun s i hs hi => lo _ (by omega) (by omega))⟩, ?_⟩
        exact RelH.begin (y := mkM (oR y) (oP y) (oA y) (oB y) (oS y) (oI y) (oX y) (oL y) (oT (f_X6_readNumbers y nn mm kk).2) (oN (f_X6_readNumbers y nn mm kk).2)) hh h
    · have hne : ¬ (f_X0_readNumbers tx nu mm).1 = (-1) := by
        rw [n1]
        intro e
        have h0 := nI_pos t1
        rw [e] at h0; exact absurd (by decide) h0
      rw [if_neg hne, if_neg (by rw [n2]; decide)]
      refine ⟨?_, ⟨nn, mm, kk, h⟩, hh⟩
      show (-100) - (f_X0_readNumbers tx nu mm).1 = (-100) - nI (oT (f_X6_readNumbers y nn mm kk).2)
      rw [n1, n3]
end RelM
