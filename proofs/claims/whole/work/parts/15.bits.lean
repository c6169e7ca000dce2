/-! ===== Int32 by its bits: bt x i ===== -/
def bt (x : Int32) (i : Nat) : Bool := x.toBitVec.getLsbD i
theorem b_ext {x y : Int32} (h : ∀ i, i < 32 → bt x i = bt y i) : x = y := Int32.toBitVec_inj.mp (BitVec.eq_of_getLsbD_eq (fun i hi => h i hi))
theorem b_or (x y : Int32) (i : Nat) : bt (x ||| y) i = (bt x i || bt y i) := by unfold bt; rw [Int32.toBitVec_or, BitVec.getLsbD_or]
theorem b_and (x y : Int32) (i : Nat) : bt (x &&& y) i = (bt x i && bt y i) := by unfold bt; rw [Int32.toBitVec_and, BitVec.getLsbD_and]
theorem b_xor (x y : Int32) (i : Nat) : bt (x ^^^ y) i = (bt x i ^^ bt y i) := by unfold bt; rw [Int32.toBitVec_xor, BitVec.getLsbD_xor]
theorem b_0 (i : Nat) : bt 0 i = false := BitVec.getLsbD_zero
theorem s_l : ∀ n, n < 32 → ((nI n &&& 31).toBitVec.smod 32).toNat = n := by decide +kernel
theorem b_sshr (n : Nat) (hn : n < 32) (x : Int32) {i : Nat} (hi : i < 32) : bt (x >>> (nI n &&& 31)) i = if n + i < 32 then bt x (n + i) else bt x 31 := by
  unfold bt
  rw [Int32.toBitVec_shiftRight]
  show (x.toBitVec.sshiftRight ((nI n &&& 31).toBitVec.smod 32).toNat).getLsbD i = _
  rw [s_l n hn, BitVec.getLsbD_sshiftRight, BitVec.msb_eq_getLsbD_last]
  simp [hi]
/-! ===== what isIn, reachedFrom, missed and server say, by bits ===== -/
theorem and_zero {x y : Int32} : x &&& y = 0 ↔ ∀ i, i < 32 → (bt x i && bt y i) = false := by
  constructor
  · intro h i _
    rw [← b_and, h, b_0]
  · intro h
    apply b_ext
    intro i hi
    rw [b_and, h i hi, b_0]
theorem bt_one : ∀ i, i < 32 → bt (nI 1) i = decide (i = 0) := by decide +kernel
theorem and1_t {x : Int32} (h : bt x 0 = true) : x &&& nI 1 = nI 1 := by
  apply b_ext
  intro i hi
  rw [b_and, bt_one i hi]
  by_cases e : i = 0
  · subst e; simp [h]
  · simp [e]
theorem and1_f {x : Int32} (h : bt x 0 = false) : x &&& nI 1 = 0 := by
  apply b_ext
  intro i hi
  rw [b_and, bt_one i hi, b_0]
  by_cases e : i = 0
  · subst e; simp [h]
  · simp [e]
theorem sh0 {x : Int32} {k : Nat} (hk : k < 32) : bt (x >>> (nI k &&& 31)) 0 = bt x k := by
  rw [b_sshr k hk x (by omega), if_pos (by omega)]
  rfl
theorem isIn_c {plan : Int32} {k : Nat} (hk : k < 32) : f_X5_isIn plan (nI k) = bt plan k := by
  unfold f_X5_isIn
  cases h : bt plan k with
  | false => rw [and1_f (by rw [sh0 hk, h]), if_pos rfl]
  | true => rw [and1_t (by rw [sh0 hk, h]), if_neg (by decide)]
theorem isIn_m {plan : Int32} {k : Nat} (hk : k < 32) : f_X6_isIn plan (nI k) = bt plan k := by
  unfold f_X6_isIn
  cases h : bt plan k with
  | false => rw [and1_f (by rw [sh0 hk, h]), if_neg (by decide)]
  | true => rw [and1_t (by rw [sh0 hk, h]), if_pos rfl]
theorem bt_pow : ∀ k, k < 31 → ∀ i, i < 32 → bt (nI (2 ^ k)) i = decide (i = k) := by decide +kernel
/-- a customer is reached -/
def reach (x : MoC) (nn : Nat) (plan : Int32) (cn : Nat) : Prop := ∃ k, k < nn ∧ bt plan k = true ∧ oR x (21 + 8 * k + cn) < nI 100
theorem l_reached {x : MoC} {nn mm kk cn : Nat} (hn : nn ≤ 7) : ∀ (d i : Nat) (a : Int32), i + d = nn → ∀ j, j < 32 → bt (l_X6_reachedFrom_4 x nn mm kk cn d i a) j = (bt a j || decide (i ≤ j ∧ j < nn ∧ oR x (21 + 8 * j + cn) < nI 100)) := by
  intro d
  induction d with
  | zero =>
    intro i a hid j hj
    rw [l_X6_reachedFrom_4]
    have : ¬ (i ≤ j ∧ j < nn ∧ oR x (21 + 8 * j + cn) < nI 100) := by rintro ⟨h1, h2, -⟩; omega
    simp [this]
  | succ d ih =>
    intro i a hid j hj
    rw [l_X6_reachedFrom_4]
    by_cases c : oR x (21 + 8 * i + cn) < nI 100
    · rw [if_pos c, ih (i + 1) _ (by omega) j hj, b_or, bt_pow i (by omega) j hj]
      by_cases e : j = i
      · subst e
        have : j < nn := by omega
        simp [c, this]
      · have h2 : (i + 1 ≤ j ∧ j < nn ∧ oR x (21 + 8 * j + cn) < nI 100) ↔ (i ≤ j ∧ j < nn ∧ oR x (21 + 8 * j + cn) < nI 100) := by
          constructor <;> rintro ⟨h1, h2, h3⟩ <;> exact ⟨by omega, h2, h3⟩
        simp [e, h2]
    · rw [if_neg c, ih (i + 1) _ (by omega) j hj, b_or]
      have e0 : bt (nI 0) j = false := b_0 j
      rw [e0]
      have h2 : (i + 1 ≤ j ∧ j < nn ∧ oR x (21 + 8 * j + cn) < nI 100) ↔ (i ≤ j ∧ j < nn ∧ oR x (21 + 8 * j + cn) < nI 100) := by
        constructor
        · rintro ⟨h1, h2, h3⟩; exact ⟨by omega, h2, h3⟩
        · rintro ⟨h1, h2, h3⟩
          refine ⟨?_, h2, h3⟩
          rcases Nat.lt_or_ge i j with q | q
          · exact q
          · have : j = i := by omega
            subst this
            exact absurd h3 c
      simp [h2]
theorem reached_bt {x : MoC} {nn mm kk cn : Nat} (hn : nn ≤ 7) {j : Nat} (hj : j < 32) : bt (f_X6_reachedFrom x nn mm kk cn) j = decide (j < nn ∧ oR x (21 + 8 * j + cn) < nI 100) := by
  unfold f_X6_reachedFrom
  rw [l_reached hn nn 0 _ (by omega) j hj]
  have e0 : bt (nI 0) j = false := b_0 j
  rw [e0]
  simp
theorem and_reached {x : MoC} {nn mm kk cn : Nat} (hn : nn ≤ 7) {plan : Int32} : (plan &&& f_X6_reachedFrom x nn mm kk cn) = 0 ↔ ¬ reach x nn plan cn := by
  rw [and_zero]
  constructor
  · rintro h ⟨k, h1, h2, h3⟩
    have := h k (by omega)
    rw [reached_bt hn (by omega), h2] at this
    simp [h1, h3] at this
  · intro h i hi
    rw [reached_bt hn hi]
    cases e : bt plan i with
    | false => rfl
    | true =>
      have : ¬ (i < nn ∧ oR x (21 + 8 * i + cn) < nI 100) := fun q => h ⟨i, q.1, e, q.2⟩
      simp [this]
theorem l_missed {x : MoC} {nn mm kk : Nat} (hn : nn ≤ 7) (hm : mm ≤ 8) {plan : Int32} : ∀ (d i : Nat), i + d = mm → (l_X6_missed_2 x nn mm kk plan d i < 0 ↔ ∀ cn, i ≤ cn → cn < mm → reach x nn plan cn) := by
  intro d
  induction d with
  | zero =>
    intro i hid
    rw [l_X6_missed_2]
    exact ⟨fun _ cn h1 h2 => by omega, fun _ => by decide⟩
  | succ d ih =>
    intro i hid
    rw [l_X6_missed_2]
    by_cases c : (plan &&& f_X6_reachedFrom x nn mm kk i) = 0
    · rw [if_pos c]
      exact ⟨fun h => absurd h (nI_pos (by omega)), fun h => absurd (h i (Nat.le_refl _) (by omega)) ((and_reached hn).mp c)⟩
    · rw [if_neg c, ih (i + 1) (by omega)]
      have hr : reach x nn plan i := Classical.not_not.mp (fun q => c ((and_reached hn).mpr q))
      refine ⟨fun h cn h1 h2 => ?_, fun h cn h1 h2 => h cn (by omega) h2⟩
      by_cases e : cn = i
      · rw [e]; exact hr
      · exact h cn (by omega) h2
theorem missed_lt {x : MoC} {nn mm kk : Nat} (hn : nn ≤ 7) (hm : mm ≤ 8) {plan : Int32} : f_X6_missed x nn mm kk plan < 0 ↔ ∀ cn, cn < mm → reach x nn plan cn := by
  unfold f_X6_missed
  rw [l_missed hn hm mm 0 (by omega)]
  exact ⟨fun h cn h2 => h cn (Nat.zero_le _) h2, fun h cn _ h2 => h cn h2⟩
theorem l_server {x : MoC} {nn mm kk : Nat} (hn : nn ≤ 7) {plan : Int32} {cn : Nat} : ∀ (d i : Nat) (a : Int32), i + d = nn → (a < 0 ∨ (a = nI (tn a) ∧ tn a < nn)) →
    (l_X6_server_6 x nn mm kk plan cn d i a < 0 ∨ (l_X6_server_6 x nn mm kk plan cn d i a = nI (tn (l_X6_server_6 x nn mm kk plan cn d i a)) ∧ tn (l_X6_server_6 x nn mm kk plan cn d i a) < nn)) ∧ (l_X6_server_6 x nn mm kk plan cn d i a < 0 ↔ a < 0 ∧ ∀ k, i ≤ k → k < nn → ¬ (bt plan k = true ∧ oR x (21 + 8 * k + cn) < nI 100)) := by
  intro d
  induction d with
  | zero =>
    intro i a hid ha
    rw [l_X6_server_6]
    exact ⟨ha, fun h => ⟨h, fun k h1 h2 => by omega⟩, fun h => h.1⟩
  | succ d ih =>
    intro i a hid ha
    rw [l_X6_server_6, isIn_m (by omega)]
    have hi : i < nn := by omega
    have hnew := ih (i + 1) (nI i) (by omega) (Or.inr (nI_inv hi (by omega)))
    have hold := ih (i + 1) a (by omega) ha
    have step : ∀ {P : Nat → Prop}, (∀ k, i ≤ k → k < nn → P k) ↔ (P i ∧ ∀ k, i + 1 ≤ k → k < nn → P k) := by
      intro P
      refine ⟨fun h => ⟨h i (Nat.le_refl _) hi, fun k h1 h2 => h k (by omega) h2⟩, fun h k h1 h2 => ?_⟩
      by_cases e : k = i
      · rw [e]; exact h.1
      · exact h.2 k (by omega) h2
    have hn0 : ¬ nI i < 0 := nI_pos (by omega)
    by_cases c1 : bt plan i = true
    · rw [if_pos c1]
      by_cases c2 : oR x (21 + 8 * i + cn) < nI 100
      · rw [if_pos c2]
        have key : ∀ q : Int32, ¬ q < 0 → (q = nI (tn q) ∧ tn q < nn) → (∀ z, z = l_X6_server_6 x nn mm kk plan cn d (i + 1) q → (z < 0 ∨ (z = nI (tn z) ∧ tn z < nn)) ∧ (z < 0 ↔ a < 0 ∧ ∀ k, i ≤ k → k < nn → ¬ (bt plan k = true ∧ oR x (21 + 8 * k + cn) < nI 100))) := by
          intro q hq hq2 z hz
          have h := ih (i + 1) q (by omega) (Or.inr hq2)
          rw [← hz] at h
          refine ⟨h.1, fun h5 => absurd (h.2.mp h5).1 hq, fun h5 => ?_⟩
          exact absurd ⟨c1, c2⟩ (h5.2 i (Nat.le_refl _) hi)
        by_cases c3 : a < 0
        · rw [if_pos c3]
          exact key _ hn0 (nI_inv hi (by omega)) _ rfl
        · rw [if_neg c3]
          have ha2 := ha.resolve_left c3
          by_cases c4 : oR x (21 + 8 * i + cn) < oR x (21 + 8 * tn a + cn)
          · rw [if_pos c4]
            exact key _ hn0 (nI_inv hi (by omega)) _ rfl
          · rw [if_neg c4]
            have e : nI (tn a) = a := ha2.1.symm
            rw [e]
            exact key _ c3 ha2 _ rfl
      · rw [if_neg c2]
        by_cases c3 : a < 0
        · refine ⟨?_, ?_⟩
          · first | exact hold.1 | (simp only [c3, if_true]; exact hold.1)
          · rw [step]
            first
              | exact hold.2.trans ⟨fun h => ⟨h.1, fun q => c2 q.2, h.2⟩, fun h => ⟨h.1, h.2.2⟩⟩
        · refine ⟨?_, ?_⟩
          · first | exact hold.1
          · rw [step]
            first
              | exact hold.2.trans ⟨fun h => ⟨h.1, fun q => c2 q.2, h.2⟩, fun h => ⟨h.1, h.2.2⟩⟩
    · rw [if_neg c1]
      refine ⟨?_, ?_⟩
      · first | exact hold.1
      · rw [step]
        exact hold.2.trans ⟨fun h => ⟨h.1, fun q => c1 q.1, h.2⟩, fun h => ⟨h.1, h.2.2⟩⟩
theorem server_n {x : MoC} {nn mm kk : Nat} (hn : nn ≤ 7) {plan : Int32} {cn : Nat} (h : ¬ f_X6_server x nn mm kk plan cn < 0) : f_X6_server x nn mm kk plan cn = nI (tn (f_X6_server x nn mm kk plan cn)) ∧ tn (f_X6_server x nn mm kk plan cn) < nn :=
  (l_server (kk := kk) (mm := mm) hn nn 0 (-5) (by omega) (Or.inl (by decide))).1.resolve_left h
theorem server_lt {x : MoC} {nn mm kk : Nat} (hn : nn ≤ 7) {plan : Int32} {cn : Nat} : f_X6_server x nn mm kk plan cn < 0 ↔ ¬ reach x nn plan cn := by
  unfold f_X6_server
  rw [(l_server hn nn 0 (-5) (by omega) (Or.inl (by decide))).2]
  constructor
  · rintro ⟨-, h⟩ ⟨k, h1, h2, h3⟩
    exact h k (Nat.zero_le _) h1 ⟨h2, h3⟩
  · intro h
    exact ⟨by decide, fun k _ h1 h2 => h ⟨k, h1, h2.1, h2.2⟩⟩
theorem missed_server {x : MoC} {nn mm kk : Nat} (hn : nn ≤ 7) (hm : mm ≤ 8) {plan : Int32} (h : f_X6_missed x nn mm kk plan < 0) : ∀ cn, cn < mm → ¬ f_X6_server x nn mm kk plan cn < 0 := fun cn hc q => (server_lt hn).mp q ((missed_lt hn hm).mp h cn hc)
