/-! ===== dropped cuts ===== -/
theorem cs_27 {y : CuC} {f g : Nat} : ∀ (d i : Nat) (v : Nat → Nat → Int32) (k s : Nat), l_X1_copyCut_s_27 y f g d i v k s = if k = g ∧ i ≤ s ∧ s < i + d then v f s else v k s := by
  intro d
  induction d with
  | zero => intro i v k s; rw [l_X1_copyCut_s_27, if_neg (by omega)]
  | succ d ih =>
    intro i v k s
    have hf : ∀ t, va_up v g (upd (v g) i (v f i)) f t = v f t := by
      intro t
      by_cases e : f = g
      · rw [e, va_up_self]
        by_cases e2 : t = i
        · rw [e2, upd_at]
        · rw [upd_ne _ _ e2]
      · rw [va_up_ne _ _ e]
    rw [l_X1_copyCut_s_27, ih, hf]
    by_cases q : k = g ∧ i + 1 ≤ s ∧ s < i + 1 + d
    · rw [if_pos q, if_pos (by omega)]
    · rw [if_neg q]
      by_cases e : k = g
      · rw [e, va_up_self]
        by_cases e2 : s = i
        · rw [e2, upd_at, if_pos (by omega)]
        · rw [upd_ne _ _ e2, if_neg (by omega)]
      · rw [va_up_ne _ _ e, if_neg (by omega)]
theorem rv_4 {y : CuC} {cut : Nat} : ∀ (d i : Nat) (u1 u2 : Nat → Int32) (u3 : Nat → Nat → Int32), 1 ≤ i → (∀ k, (l_X1_remove_4 y cut d i u1 u2 u3).1 k = if i - 1 ≤ k ∧ k < i - 1 + d then u1 (k + 1) else u1 k) ∧ (∀ k, (l_X1_remove_4 y cut d i u1 u2 u3).2.1 k = if i - 1 ≤ k ∧ k < i - 1 + d then u2 (k + 1) else u2 k) ∧ (∀ k s, s < 7 → (l_X1_remove_4 y cut d i u1 u2 u3).2.2 k s = if i - 1 ≤ k ∧ k < i - 1 + d then u3 (k + 1) s else u3 k s) := by
  intro d
  induction d with
  | zero => intro i u1 u2 u3 _; exact ⟨fun s => by rw [l_X1_remove_4, if_neg (by omega)], fun s => by rw [l_X1_remove_4, if_neg (by omega)], fun s c _ => by rw [l_X1_remove_4, if_neg (by omega)]⟩
  | succ d ih =>
    intro i u1 u2 u3 hi
    obtain ⟨h1, h2, h3⟩ := ih (i + 1) (kC (f_X1_copyCut_s (mkC (kA y) u1 u2 u3) i (i - 1))) (kS (f_X1_copyCut_s (mkC (kA y) u1 u2 u3) i (i - 1))) (kW (f_X1_copyCut_s (mkC (kA y) u1 u2 u3) i (i - 1))) (by omega)
    have c1 : ∀ k, kC (f_X1_copyCut_s (mkC (kA y) u1 u2 u3) i (i - 1)) k = upd u1 (i - 1) (u1 i) k := fun _ => rfl
    have c2 : ∀ k, kS (f_X1_copyCut_s (mkC (kA y) u1 u2 u3) i (i - 1)) k = upd u2 (i - 1) (u2 i) k := fun _ => rfl
    have c3 : ∀ k s, s < 7 → kW (f_X1_copyCut_s (mkC (kA y) u1 u2 u3) i (i - 1)) k s = if k = i - 1 then u3 i s else u3 k s := by
      intro k s hs
      show l_X1_copyCut_s_27 (mkC (kA y) u1 u2 u3) i (i - 1) 7 0 u3 k s = _
      rw [cs_27]
      by_cases e : k = i - 1
      · rw [if_pos (by omega), if_pos e]
      · rw [if_neg (by omega), if_neg e]
    refine ⟨fun k => ?_, fun k => ?_, fun k s hs => ?_⟩
    · rw [l_X1_remove_4, h1, c1, c1]
      by_cases q : i + 1 - 1 ≤ k ∧ k < i + 1 - 1 + d
      · rw [if_pos q, if_pos (by omega), upd_ne _ _ (by omega)]
      · rw [if_neg q]
        by_cases e : k = i - 1
        · rw [e, upd_at, if_pos (by omega)]; exact congrArg u1 (by omega)
        · rw [upd_ne _ _ e, if_neg (by omega)]
    · rw [l_X1_remove_4, h2, c2, c2]
      by_cases q : i + 1 - 1 ≤ k ∧ k < i + 1 - 1 + d
      · rw [if_pos q, if_pos (by omega), upd_ne _ _ (by omega)]
      · rw [if_neg q]
        by_cases e : k = i - 1
        · rw [e, upd_at, if_pos (by omega)]; exact congrArg u2 (by omega)
        · rw [upd_ne _ _ e, if_neg (by omega)]
    · rw [l_X1_remove_4, h3 k s hs, c3 _ s hs, c3 _ s hs]
      by_cases q : i + 1 - 1 ≤ k ∧ k < i + 1 - 1 + d
      · rw [if_pos q, if_neg (show ¬ k + 1 = i - 1 by omega), if_pos (by omega)]
      · rw [if_neg q]
        by_cases e : k = i - 1
        · rw [if_pos e, if_pos (by omega), show k + 1 = i by omega]
        · rw [if_neg e, if_neg (by omega)]
theorem remove_at {y : CuC} {cut : Nat} : kA (f_X1_remove y cut) = kA y - 1 ∧ (∀ k, kC (f_X1_remove y cut) k = if cut ≤ k ∧ k + 1 < kA y then kC y (k + 1) else kC y k) ∧ (∀ k, kS (f_X1_remove y cut) k = if cut ≤ k ∧ k + 1 < kA y then kS y (k + 1) else kS y k) ∧ (∀ k s, s < 7 → kW (f_X1_remove y cut) k s = if cut ≤ k ∧ k + 1 < kA y then kW y (k + 1) s else kW y k s) := by
  obtain ⟨h1, h2, h3⟩ := rv_4 (y := y) (cut := cut) (kA y - (cut + 1)) (cut + 1) (kC y) (kS y) (kW y) (by omega)
  refine ⟨rfl, fun k => (h1 k).trans ?_, fun k => (h2 k).trans ?_, fun k s hs => (h3 k s hs).trans ?_⟩
  · by_cases q : cut ≤ k ∧ k + 1 < kA y
    · rw [if_pos q, if_pos (by omega)]
    · rw [if_neg q, if_neg (by omega)]
  · by_cases q : cut ≤ k ∧ k + 1 < kA y
    · rw [if_pos q, if_pos (by omega)]
    · rw [if_neg q, if_neg (by omega)]
  · by_cases q : cut ≤ k ∧ k + 1 < kA y
    · rw [if_pos q, if_pos (by omega)]
    · rw [if_neg q, if_neg (by omega)]
section RelI
variable {nn mm kk : Nat} {z : SoC} {x : PlC} {u : CuC} {y : MoC} {w : ZoC} {ho : HoC} {sg : Nat → Nat} {hs : Nat → StC}
theorem RelS.dropped (h : RelS nn mm kk z x u (oR y)) {kc : Nat} (hkc : kc < kk) : RelS nn mm (kk - 1) z x (f_X1_remove u kc) (oR (f_X6_dropOne y nn mm kk kc)) := by
  have hn := h.1.1.1
  have hm := h.1.1.2.1
  obtain ⟨k1, k2, k3, k4⟩ := h.2.1
  obtain ⟨r1, r2, r3, r4⟩ := remove_at (y := u) (cut := kc)
  have lo : ∀ j, j ≠ 3 → j < 84 + 9 * kc → oR (f_X6_dropOne y nn mm kk kc) j = oR y j := fun j j3 hj => by rw [dropOne_at (by omega), if_neg j3, if_neg (by omega)]
  refine ⟨h.1.cg (fun j hj h3 _ _ => lo j h3 (by omega)), ⟨by omega, by rw [r1, k2], ?_, ?_⟩, h.2.2.cg rfl rfl (lo 4 (by decide) (by omega)) (lo 5 (by decide) (by omega)) (fun s i hs hi => lo _ (by omega) (by omega))⟩
  · rw [dropOne_at (by omega), if_pos rfl, k3]; exact pk_sub (show 1 ≤ kk by omega)
  · intro k hk
    by_cases q : k < kc
    · refine (k4 k (by omega)).cg hm (fun i hi => lo _ (by omega) (by omega)) (fun i hi => lo _ (by omega) (by omega)) (fun s i hs hi => lo _ (by omega) (by omega)) ?_ ?_ (fun s hs => ?_)
      · rw [r2, if_neg (by omega)]
      · rw [r3, if_neg (by omega)]
      · rw [r4 k s (by omega), if_neg (by omega)]
    · refine (k4 (k + 1) (by omega)).cg hm (fun i hi => lo _ (by omega) (by omega)) (fun i hi => ?_) (fun s i hs hi => lo _ (by omega) (by omega)) ?_ ?_ (fun s hs => ?_)
      · rw [dropOne_at (by omega), if_neg (by omega), if_pos (by omega), if_pos (by omega)]
        exact congrArg _ (by omega)
      · rw [r2, if_pos (by omega)]
      · rw [r3, if_pos (by omega)]
      · rw [r4 k s (by omega), if_pos (by omega)]
set_option maxRecDepth 100000 in
theorem w_drop (h : RelS nn mm kk z x u (oR y)) (hh : RelH ho sg hs (oS y) (oP y)) (cut : Int32) : W7 (f_X5_drop w z x u ho sg hs cut) (f_X6_drop y nn mm kk cut) := by
  have hk := h.2.1.1
  unfold f_X5_drop f_X6_drop
  rw [show f_X1_isCut u cut = cl (kA u) cut from rfl, show f_X6_noCut y nn mm kk cut = cm kk cut from rfl, h.2.1.2.1]
  rcases cl_in (show kk < 2 ^ 31 by omega) cut with ⟨k, hkk, rfl, e1, e2⟩ | ⟨e1, e2⟩
  · rw [e1, e2, if_pos tt, if_neg ff, tn_nI (show k < 2 ^ 31 by omega)]
    have hd := RelS.dropped (y := mkM (oR y) (oP (f_X6_begin y)) (oA y) (oB (f_X6_begin y)) (oS (f_X6_begin y)) (oI y) (oX y) (oL y) (oT y) (oN y)) h hkk
    refine ⟨?_, ⟨nn, mm, kk - 1, hd⟩, RelH.begin hh h⟩
    show nI (kA (f_X1_remove u k)) = oR (f_X6_dropOne (mkM (oR y) (oP (f_X6_begin y)) (oA y) (oB (f_X6_begin y)) (oS (f_X6_begin y)) (oI y) (oX y) (oL y) (oT y) (oN y)) nn mm kk k) 3
    rw [hd.2.1.2.1]; exact hd.2.1.2.2.1.symm
  · rw [e1, e2, if_neg ff, if_pos tt]; exact W7.same h hh _
/-! removeLoose from below, dropLoose from above -/
def dsc (P g : Int32) : Nat → CuC → CuC
  | 0, v => v
  | d + 1, v => if f_X1_isLoose v d P g = true then dsc P g d (f_X1_remove v d) else dsc P g d v
theorem loose_cg {v v' : CuC} {k k' : Nat} {P g : Int32} (e1 : kC v' k' = kC v k) (e2 : kS v' k' = kS v k) (e3 : ∀ s, s < 7 → kW v' k' s = kW v k s) : f_X1_isLoose v' k' P g = f_X1_isLoose v k P g := by
  have L : ∀ (d i : Nat) (a : Int32), i + d = 7 → l_X1_weightOf_5 v' k' P d i a = l_X1_weightOf_5 v k P d i a := by
    intro d
    induction d with
    | zero => intro i a _; rfl
    | succ d ih => intro i a hid; rw [l_X1_weightOf_5, l_X1_weightOf_5, e3 i (by omega), ih _ _ (by omega), ih _ _ (by omega)]
  have ew : f_X1_weightOf v' k' P = f_X1_weightOf v k P := L 7 0 _ rfl
  unfold f_X1_isLoose f_X1_isRay f_X1_valueOf
  rw [ew, e1, e2]
def keptN (v : CuC) (P g : Int32) (i : Nat) : Nat := cN (fun k => !(f_X1_isLoose v k P g)) i
theorem keptN_s (v : CuC) (P g : Int32) (i : Nat) : keptN v P g (i + 1) = keptN v P g i + (if f_X1_isLoose v i P g = true then 0 else 1) := by
  unfold keptN
  rw [cN]
  cases f_X1_isLoose v i P g <;> rfl
theorem keptN_le (v : CuC) (P g : Int32) (i : Nat) : keptN v P g i ≤ i := cN_le i
theorem keptN_mono (v : CuC) (P g : Int32) {i j : Nat} (h : i ≤ j) : keptN v P g i ≤ keptN v P g j := by
  obtain ⟨d, rfl⟩ : ∃ d, j = i + d := ⟨j - i, by omega⟩
  induction d with
  | zero => exact Nat.le_refl _
  | succ d ih => have := ih (by omega); rw [show i + (d + 1) = (i + d) + 1 by omega, keptN_s]; omega
theorem keptN_on (v : CuC) (P g : Int32) : ∀ (n p : Nat), p < keptN v P g n → ∃ k, k < n ∧ f_X1_isLoose v k P g = false ∧ keptN v P g k = p := by
  intro n
  induction n with
  | zero => intro p hp; exact absurd hp (Nat.not_lt_zero _)
  | succ n ih =>
    intro p hp
    rw [keptN_s] at hp
    by_cases q : p < keptN v P g n
    · obtain ⟨k, h1, h2, h3⟩ := ih p q
      exact ⟨k, by omega, h2, h3⟩
    · cases c : f_X1_isLoose v n P g with
      | true => rw [c, if_pos rfl] at hp; omega
      | false =>
        rw [c, if_neg ff] at hp
        exact ⟨n, by omega, c, by omega⟩
theorem rl_11 {v : CuC} {P : Int32} : ∀ (d i a : Nat) (u1 u2 : Nat → Int32) (u3 : Nat → Nat → Int32), i + d = kA v → a = keptN v P (f_X1_greatestValue v P) i → (∀ k, k < i → f_X1_isLoose v k P (f_X1_greatestValue v P) = false → u1 (keptN v P (f_X1_greatestValue v P) k) = kC v k ∧ u2 (keptN v P (f_X1_greatestValue v P) k) = kS v k ∧ ∀ s, s < 7 → u3 (keptN v P (f_X1_greatestValue v P) k) s = kW v k s) → (∀ k, i ≤ k → u1 k = kC v k ∧ u2 k = kS v k ∧ ∀ s, s < 7 → u3 k s = kW v k s) →
    (l_X1_removeLoose_11 v P d i a u1 u2 u3).1 = keptN v P (f_X1_greatestValue v P) (kA v) ∧ ∀ k, k < kA v → f_X1_isLoose v k P (f_X1_greatestValue v P) = false → (l_X1_removeLoose_11 v P d i a u1 u2 u3).2.1 (keptN v P (f_X1_greatestValue v P) k) = kC v k ∧ (l_X1_removeLoose_11 v P d i a u1 u2 u3).2.2.1 (keptN v P (f_X1_greatestValue v P) k) = kS v k ∧ ∀ s, s < 7 → (l_X1_removeLoose_11 v P d i a u1 u2 u3).2.2.2 (keptN v P (f_X1_greatestValue v P) k) s = kW v k s := by
  intro d
  induction d with
  | zero =>
    intro i a u1 u2 u3 hid ha h1 h2
    have hi : i = kA v := by omega
    rw [hi] at ha h1
    exact ⟨ha, h1⟩
  | succ d ih =>
    intro i a u1 u2 u3 hid ha h1 h2
    obtain ⟨g1, g2, g3⟩ := h2 i (Nat.le_refl _)
    have eL : f_X1_isLoose (mkC (kA v) u1 u2 u3) i P (f_X1_greatestValue v P) = f_X1_isLoose v i P (f_X1_greatestValue v P) := loose_cg g1 g2 g3
    have hle := keptN_le v P (f_X1_greatestValue v P) i
    have hs := keptN_s v P (f_X1_greatestValue v P) i
    rw [l_X1_removeLoose_11, eL]
    cases c : f_X1_isLoose v i P (f_X1_greatestValue v P) with
    | true =>
      rw [c, if_pos tt] at hs
      rw [if_pos tt]
      refine ih (i + 1) a u1 u2 u3 (by omega) (by omega) (fun k hk hf => ?_) (fun k hk => h2 k (by omega))
      by_cases e : k = i
      · rw [e, c] at hf; exact absurd hf (by decide)
      · exact h1 k (by omega) hf
    | false =>
      rw [c, if_neg ff] at hs
      rw [if_neg ff]
      have c1 : ∀ k, kC (f_X1_copyCut_s (mkC (kA v) u1 u2 u3) i a) k = upd u1 a (u1 i) k := fun _ => rfl
      have c2 : ∀ k, kS (f_X1_copyCut_s (mkC (kA v) u1 u2 u3) i a) k = upd u2 a (u2 i) k := fun _ => rfl
      have c3 : ∀ k s, s < 7 → kW (f_X1_copyCut_s (mkC (kA v) u1 u2 u3) i a) k s = if k = a then u3 i s else u3 k s := by
        intro k s hs
        show l_X1_copyCut_s_27 (mkC (kA v) u1 u2 u3) i a 7 0 u3 k s = _
        rw [cs_27]
        by_cases e : k = a
        · rw [if_pos (by omega), if_pos e]
        · rw [if_neg (by omega), if_neg e]
      refine ih (i + 1) (a + 1) _ _ _ (by omega) (by omega) (fun k hk hf => ?_) (fun k hk => ?_)
      · by_cases e : k = i
        · rw [e, ← ha]
          refine ⟨by rw [c1, upd_at]; exact g1, by rw [c2, upd_at]; exact g2, fun s hs7 => by rw [c3 _ s hs7, if_pos rfl]; exact g3 s hs7⟩
        · have hne : keptN v P (f_X1_greatestValue v P) k ≠ a := by
            have hk1 := keptN_s v P (f_X1_greatestValue v P) k
            rw [hf, if_neg ff] at hk1
            have := keptN_mono v P (f_X1_greatestValue v P) (show k + 1 ≤ i by omega)
            omega
          obtain ⟨q1, q2, q3⟩ := h1 k (by omega) hf
          refine ⟨by rw [c1, upd_ne _ _ hne]; exact q1, by rw [c2, upd_ne _ _ hne]; exact q2, fun s hs7 => by rw [c3 _ s hs7, if_neg hne]; exact q3 s hs7⟩
      · obtain ⟨q1, q2, q3⟩ := h2 k (by omega)
        have hne : k ≠ a := by omega
        refine ⟨by rw [c1, upd_ne _ _ hne]; exact q1, by rw [c2, upd_ne _ _ hne]; exact q2, fun s hs7 => by rw [c3 _ s hs7, if_neg hne]; exact q3 s hs7⟩
theorem dsc_at {v : CuC} {P g : Int32} {n : Nat} (hA : kA v = n) : ∀ (d : Nat) (v' : CuC), d ≤ n → kA v' = d + (keptN v P g n - keptN v P g d) → (∀ k, k < d → kC v' k = kC v k ∧ kS v' k = kS v k ∧ ∀ s, s < 7 → kW v' k s = kW v k s) → (∀ k, d ≤ k → k < n → f_X1_isLoose v k P g = false → kC v' (d + (keptN v P g k - keptN v P g d)) = kC v k ∧ kS v' (d + (keptN v P g k - keptN v P g d)) = kS v k ∧ ∀ s, s < 7 → kW v' (d + (keptN v P g k - keptN v P g d)) s = kW v k s) →
    kA (dsc P g d v') = keptN v P g n ∧ ∀ k, k < n → f_X1_isLoose v k P g = false → kC (dsc P g d v') (keptN v P g k) = kC v k ∧ kS (dsc P g d v') (keptN v P g k) = kS v k ∧ ∀ s, s < 7 → kW (dsc P g d v') (keptN v P g k) s = kW v k s := by
  intro d
  induction d with
  | zero =>
    intro v' _ h1 _ h3
    have k0 : keptN v P g 0 = 0 := rfl
    rw [dsc]
    rw [k0] at h1 h3
    refine ⟨by omega, fun k hk hf => ?_⟩
    have := h3 k (Nat.zero_le _) hk hf
    rw [Nat.zero_add, Nat.sub_zero] at this
    exact this
  | succ d ih =>
    intro v' hd h1 h2 h3
    obtain ⟨g1, g2, g3⟩ := h2 d (by omega)
    have eL : f_X1_isLoose v' d P g = f_X1_isLoose v d P g := loose_cg g1 g2 g3
    have hs := keptN_s v P g d
    have hmn := keptN_mono v P g hd
    rw [dsc, eL]
    cases c : f_X1_isLoose v d P g with
    | true =>
      rw [c, if_pos tt] at hs
      rw [if_pos tt]
      obtain ⟨r1, r2, r3, r4⟩ := remove_at (y := v') (cut := d)
      refine ih (f_X1_remove v' d) (by omega) (by omega) (fun k hk => ?_) (fun k hk hkn hf => ?_)
      · obtain ⟨q1, q2, q3⟩ := h2 k (by omega)
        refine ⟨by rw [r2, if_neg (by omega)]; exact q1, by rw [r3, if_neg (by omega)]; exact q2, fun s hs7 => by rw [r4 _ s hs7, if_neg (by omega)]; exact q3 s hs7⟩
      · have hkd : k ≠ d := fun e => by rw [e, c] at hf; exact absurd hf (by decide)
        obtain ⟨q1, q2, q3⟩ := h3 k (by omega) hkn hf
        have hk1 := keptN_s v P g k
        rw [hf, if_neg ff] at hk1
        have m1 := keptN_mono v P g (show k + 1 ≤ n by omega)
        have m2 := keptN_mono v P g (show d + 1 ≤ k by omega)
        have ee : d + (keptN v P g k - keptN v P g d) + 1 = d + 1 + (keptN v P g k - keptN v P g (d + 1)) := by omega
        have cond : d ≤ d + (keptN v P g k - keptN v P g d) ∧ d + (keptN v P g k - keptN v P g d) + 1 < kA v' := by omega
        refine ⟨by rw [r2, if_pos cond, ee]; exact q1, by rw [r3, if_pos cond, ee]; exact q2, fun s hs7 => by rw [r4 _ s hs7, if_pos cond, ee]; exact q3 s hs7⟩
    | false =>
      rw [c, if_neg ff] at hs
      rw [if_neg ff]
      refine ih v' (by omega) (by omega) (fun k hk => h2 k (by omega)) (fun k hk hkn hf => ?_)
      by_cases e : k = d
      · rw [e, Nat.sub_self, Nat.add_zero]; exact ⟨g1, g2, g3⟩
      · have m2 := keptN_mono v P g (show d + 1 ≤ k by omega)
        have ee : d + (keptN v P g k - keptN v P g d) = d + 1 + (keptN v P g k - keptN v P g (d + 1)) := by omega
        rw [ee]
        exact h3 k (by omega) hkn hf
theorem dsc_rel {p : Nat} (hp : p < 2 ^ nn) {g : Int32} : ∀ (d k' : Nat) (v : CuC) (y' : MoC), d ≤ k' → RelS nn mm k' z x v (oR y') → ∃ k2, RelS nn mm k2 z x (dsc (nI p) g d v) (oR (l_X6_dropLoose_86 nn mm (nI p) g d y')) := by
  intro d
  induction d with
  | zero => intro k' v y' _ h; exact ⟨k', h⟩
  | succ d ih =>
    intro k' v y' hd h
    have ek : tn (oR y' 3) = k' := h.row.tnk
    rw [dsc, l_X6_dropLoose_86, ek, rk_loose h.2.1 h.1.1.1 h.1.1.2.1 (show d < k' by omega) hp g]
    cases c : f_X6_isLoose y' nn mm k' d (nI p) g with
    | true => rw [if_pos tt, if_pos tt]; exact ih (k' - 1) _ _ (by omega) (h.dropped (show d < k' by omega))
    | false => rw [if_neg ff, if_neg ff]; exact ih k' v y' (by omega) h
theorem dl_keep {P A : Int32} : ∀ (d : Nat) (y' : MoC), oP (l_X6_dropLoose_86 nn mm P A d y') = oP y' ∧ oA (l_X6_dropLoose_86 nn mm P A d y') = oA y' ∧ oS (l_X6_dropLoose_86 nn mm P A d y') = oS y' ∧ oI (l_X6_dropLoose_86 nn mm P A d y') = oI y' ∧ oX (l_X6_dropLoose_86 nn mm P A d y') = oX y' ∧ oL (l_X6_dropLoose_86 nn mm P A d y') = oL y' := by
  intro d
  induction d with
  | zero => intro y'; exact ⟨rfl, rfl, rfl, rfl, rfl, rfl⟩
  | succ d ih =>
    intro y'
    rw [l_X6_dropLoose_86]
    split
    · have := ih (f_X6_dropOne y' nn mm (tn (oR y' 3)) d)
      rw [u_X6_dropOne_0_1, u_X6_dropOne_0_2, u_X6_dropOne_0_4, u_X6_dropOne_0_5, u_X6_dropOne_0_6, u_X6_dropOne_0_7] at this
      exact this
    · exact ih y'
theorem w_dropLoose (h : RelS nn mm kk z x u (oR y)) (hh : RelH ho sg hs (oS y) (oP y)) : W7 (f_X5_dropLoose w z x u ho sg hs) (f_X6_dropLoose y nn mm kk) := by
  have hn := h.1.1.1
  have hm := h.1.1.2.1
  have hk := h.2.1.1
  unfold f_X5_dropLoose f_X6_dropLoose
  rcases rs_master h with ⟨a, b⟩ | ⟨p, hp, a, b⟩
  · rw [a, b, if_pos rfl, if_pos (by decide)]; exact W7.same h hh _
  · rw [a, b, if_neg (m1_ne hn hp), if_neg (p_pos hn hp), rs_loose h hp]
    have hle := dropLoose_le (x := y) (nn := nn) (mm := mm) (kk := kk) (plan := nI p) (above := f_X6_guess y nn mm kk (nI p) - f_X6_prices y nn mm kk (nI p)) kk 0 0
    by_cases c : l_X6_dropLoose_29 y nn mm kk (nI p) (f_X6_guess y nn mm kk (nI p) - f_X6_prices y nn mm kk (nI p)) kk 0 0 = 0
    · rw [c, if_pos (show nI 0 = 0 from rfl), if_pos rfl]; exact W7.same h hh _
    · rw [if_neg (nI_ne0 (by omega) (by omega)), if_neg c]
      have hb : RelS nn mm kk z x u (oR (f_X6_begin y)) := by rw [u_X6_begin_0_0]; exact h
      obtain ⟨k2, hr⟩ := dsc_rel (g := f_X6_guess y nn mm kk (nI p) - f_X6_prices y nn mm kk (nI p)) hp kk kk u (f_X6_begin y) (Nat.le_refl _) hb
      obtain ⟨e1, e2, e3, -⟩ := dl_keep (nn := nn) (mm := mm) (P := nI p) (A := f_X6_guess y nn mm kk (nI p) - f_X6_prices y nn mm kk (nI p)) kk (f_X6_begin y)
      refine ⟨rfl, ⟨nn, mm, k2, hr.1, ?_, hr.2.2⟩, ?_⟩
      · have ga := rs_above h hp
        rw [← ga] at hr
        obtain ⟨d1, d2⟩ := dsc_at (v := u) (P := nI p) (g := f_X1_greatestValue u (nI p)) h.2.1.2.1 kk u (Nat.le_refl _) (by rw [h.2.1.2.1]; omega) (fun k _ => ⟨rfl, rfl, fun _ _ => rfl⟩) (fun k q1 q2 => absurd q2 (by omega))
        obtain ⟨l1, l2⟩ := rl_11 (v := u) (P := nI p) (kA u) 0 0 (kC u) (kS u) (kW u) (by omega) rfl (fun k q => absurd q (Nat.not_lt_zero k)) (fun k _ => ⟨rfl, rfl, fun _ _ => rfl⟩)
        rw [h.2.1.2.1] at l1 l2
        have hk2 : k2 = keptN u (nI p) (f_X1_greatestValue u (nI p)) kk := hr.2.1.2.1.symm.trans d1
        rw [← ga]
        refine RelK.cl hr.2.1 hm ?_ (fun q hq => ?_) (fun q hq => ?_) (fun q s hq hs => ?_)
        · show (l_X1_removeLoose_11 u (nI p) (kA u) 0 0 (kC u) (kS u) (kW u)).1 = _
          rw [h.2.1.2.1, l1, d1]
        · obtain ⟨k, q1, q2, q3⟩ := keptN_on u (nI p) (f_X1_greatestValue u (nI p)) kk q (by omega)
          rw [← q3, (d2 k q1 q2).1, ← (l2 k q1 q2).1]
          show (l_X1_removeLoose_11 u (nI p) (kA u) 0 0 (kC u) (kS u) (kW u)).2.1 _ = _
          rw [h.2.1.2.1]
        · obtain ⟨k, q1, q2, q3⟩ := keptN_on u (nI p) (f_X1_greatestValue u (nI p)) kk q (by omega)
          rw [← q3, (d2 k q1 q2).2.1, ← (l2 k q1 q2).2.1]
          show (l_X1_removeLoose_11 u (nI p) (kA u) 0 0 (kC u) (kS u) (kW u)).2.2.1 _ = _
          rw [h.2.1.2.1]
        · obtain ⟨k, q1, q2, q3⟩ := keptN_on u (nI p) (f_X1_greatestValue u (nI p)) kk q (by omega)
          rw [← q3, (d2 k q1 q2).2.2 s (by omega), ← (l2 k q1 q2).2.2 s (by omega)]
          show (l_X1_removeLoose_11 u (nI p) (kA u) 0 0 (kC u) (kS u) (kW u)).2.2.2 _ s = _
          rw [h.2.1.2.1]
      · show RelH _ _ _ (oS (l_X6_dropLoose_86 nn mm (nI p) (f_X6_guess y nn mm kk (nI p) - f_X6_prices y nn mm kk (nI p)) kk (f_X6_begin y))) (oP (l_X6_dropLoose_86 nn mm (nI p) (f_X6_guess y nn mm kk (nI p) - f_X6_prices y nn mm kk (nI p)) kk (f_X6_begin y)))
        rw [e1, e3]
        exact RelH.begin hh h
end RelI
