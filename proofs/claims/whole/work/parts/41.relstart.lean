/-! ===== the whole relation; its start ===== -/
def Rel (w : ZoC) (so : SoC) (x : PlC) (u : CuC) (ho : HoC) (sg : Nat → Nat) (hs : Nat → StC) (z2 : SoC) (x2 : PlC) (u2 : CuC) (tx : TxC) (y : MoC) : Prop := (∃ nn mm kk, RelS nn mm kk so x u (oR y)) ∧ RelH ho sg hs (oS y) (oP y) ∧ RelQ w z2 x2 u2 (oI y) (oA y) ∧ RelT tx (oL y) (oX y)
theorem row0_at {j : Nat} : row0 j = if 21 ≤ j ∧ j < 77 then nI 100 else (if j = 4 then (-5) else (if j = 2 then nI 7 else 0)) := by
  have L : ∀ (d i : Nat) (v : Nat → Int32), l_X6_init d i v j = if 21 + i ≤ j ∧ j < 21 + i + d then nI 100 else v j := by
    intro d
    induction d with
    | zero => intro i v; rw [l_X6_init, if_neg (by omega)]
    | succ d ih =>
      intro i v
      rw [l_X6_init, ih]
      by_cases q : 21 + (i + 1) ≤ j ∧ j < 21 + (i + 1) + d
      · rw [if_pos q, if_pos (by omega)]
      · rw [if_neg q]
        by_cases e : j = 21 + i
        · rw [e, upd_at, if_pos (by omega)]
        · rw [upd_ne _ _ e, if_neg (by omega)]
  unfold row0
  rw [L 56 0]
  by_cases q : 21 ≤ j ∧ j < 77
  · rw [if_pos (by omega), if_pos q]
  · rw [if_neg (by omega), if_neg q]
    by_cases e : j = 4
    · rw [if_pos e, e, upd_at]
    · rw [if_neg e, upd_ne _ _ e]
      by_cases e2 : j = 2
      · rw [if_pos e2, e2, upd_at]
      · rw [if_neg e2, upd_ne _ _ e2]
theorem rs0 : RelS 0 0 0 so0 pl0 cu0 row0 := by
  have h0 : ∀ j, ¬ (21 ≤ j ∧ j < 77) → j ≠ 4 → j ≠ 2 → row0 j = 0 := fun j q1 q2 q3 => by rw [row0_at, if_neg q1, if_neg q2, if_neg q3]
  refine ⟨⟨⟨by decide, by decide, rfl, rfl⟩, ⟨h0 0 (by omega) (by decide) (by decide), h0 1 (by omega) (by decide) (by decide), by rw [row0_at, if_neg (by omega), if_neg (by decide), if_pos rfl]⟩, fun s hs => absurd hs (Nat.not_lt_zero s), fun c hc => absurd hc (Nat.not_lt_zero c), fun s c hs => absurd hs (Nat.not_lt_zero s), fun s c hs hc _ => by rw [row0_at, if_pos (by omega)], fun s hs => absurd hs (Nat.not_lt_zero s), fun s j hs hj hb => ?_⟩, ⟨by decide, rfl, h0 3 (by omega) (by decide) (by decide), fun k hk => absurd hk (Nat.not_lt_zero k)⟩, ⟨(h0 5 (by omega) (by decide) (by decide)).symm, Or.inl ⟨rfl, by rw [row0_at, if_neg (by omega), if_pos rfl]⟩⟩⟩
  rw [h0 (77 + s) (by omega) (by omega) (by omega), b_0] at hb
  exact absurd hb (by decide)
theorem rel0 : Rel (mkZ (nI 0)) so0 pl0 cu0 (mkH 0) (fun j => j) (fun _ => st0) so0 pl0 cu0 (mkX (fun _ => 0) 0) (mkM row0 (fun _ => 0) (fun _ => 0) (fun _ => 0) 0 0 (fun _ => 0) 0 0 (fun _ => 0)) :=
  ⟨⟨0, 0, 0, rs0⟩, ⟨rfl, Nat.zero_le _, fun j hj => hj, fun i j _ _ h => h, fun j hj => absurd hj (Nat.not_lt_zero j)⟩, ⟨rfl, fun h => absurd rfl h⟩, ⟨rfl, Nat.zero_le _, fun j hj => absurd hj (Nat.not_lt_zero j)⟩⟩
