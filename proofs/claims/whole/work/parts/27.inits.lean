/-! the constructors -/
section SZ
variable {p : Program} {l : Launch} {e : Env} {R : Room} {s : State} {m : MethodId} {as : Array Value} {below : List Frame} {meth : Method} {c : Code} {H H0 : Heap} {locs : List Loc} {cells slots : Nat} {Q : State → Prop}
variable {cc : ByteArray} {nL pc : Nat} {own : String} {ls : Array Slot} {rest : List Value} {dd : va_G} {t : CL4} {N z : Nat} {V : Nat → va_E}
theorem r_istZ (X : WX p s m as c cc nL own dd t) (hP : HP dd N (adz z) V H) (hS : va_S (Az z) H0 H locs) {k n : Nat} {f : Nat → Int32} (hk : k < N) (hV : arr t.1 n f (V k)) {j : Nat} {x : Int32} (hj : j < n) (hn : n < 2 ^ 31) (hdg : decode cc pc = .ok (.iastore, 1))
    (kk : ∀ (V1 : Nat → va_E) (H1 : Heap) (locs1 : List Loc), arr t.1 n (upd f j x) (V1 k) → (∀ i, i ≠ k → V1 i = V i) → HP dd N (adz z) V1 H1 → H1.size = H.size → va_S (Az z) H0 H1 locs1 → W p l e R s m as below meth c H1 locs1 cells slots Q (F0 m (pc + 1) ls rest)) : W p l e R s m as below meth c H locs cells slots Q (F0 m pc ls (.int x :: .int (nI j) :: .ref (adz z k) :: rest)) := by
  obtain ⟨g, e1, e2⟩ := hV
  have ha : (wd N (adz z) V)[k]? = some (adz z k, .inl (t.1, n, .inl g)) := by rw [wd_at hk, e1]
  have hin : vp_in (nI j) n := vp_in_nI hj hn
  refine W.iast X.1.1 X.1.2.1 (hP k _ ha) ((X.2.1.2 0 _ rfl).1 n (fun j => .int (g j))) (fun q => by cases q) (by show ¬ (_ < 0 ∨ (arrV _ _ _).slots.size ≤ _); rw [arrV_size]; exact hin) rfl rfl hdg fun H1 e z1 oq => ?_
  have hP1 := va_P.set hP wd_Dz ha (e := .inl (t.1, n, .inl (upd g j x))) (by
    show H1[adz z k]? = some (vp_cell _ _)
    rw [e]
    rw [vp_cell_i, vp_cell_i, arrV_store, nI_clamp (by omega)]
    congr 2
    funext q
    by_cases hq : q = j
    · subst hq
      simp [updV, upd]
    · simp [updV, upd, hq]) oq
  rw [wd_set hk] at hP1
  exact kk _ H1 _ (arr_upd e2 (va_up_self _ _ _)) (fun i hi => va_up_ne _ _ hi) hP1 z1 (hS.put z1 oq (Nat.le_add_right z k))
theorem r_qstZ (X : WX p s m as c cc nL own dd t) (hP : HP dd N (adz z) V H) (hS : va_S (Az z) H0 H locs) {k n k2 : Nat} {f : Nat → Option Nat} {vs : List Value} (hk : k < N) (hV : V k = .inl (t.2.2.2, n, .inr (.inr (.inr (.inr f))))) (hk2 : k2 < N) (hV2 : V k2 = .inr (4, vs)) {j : Nat} (hj : j < n) (hn : n < 2 ^ 31) (hdg : decode cc pc = .ok (.aastore, 1))
    (kk : ∀ (V1 : Nat → va_E) (H1 : Heap) (locs1 : List Loc), V1 k = .inl (t.2.2.2, n, .inr (.inr (.inr (.inr (va_up f j (some (adz z k2))))))) → (∀ i, i ≠ k → V1 i = V i) → HP dd N (adz z) V1 H1 → H1.size = H.size → va_S (Az z) H0 H1 locs1 → W p l e R s m as below meth c H1 locs1 cells slots Q (F0 m (pc + 1) ls rest)) : W p l e R s m as below meth c H locs cells slots Q (F0 m pc ls (.ref (adz z k2) :: .int (nI j) :: .ref (adz z k) :: rest)) := by
  have ha : (wd N (adz z) V)[k]? = some (adz z k, .inl (t.2.2.2, n, .inr (.inr (.inr (.inr f))))) := by rw [wd_at hk, hV]
  have hv : (wd N (adz z) V)[k2]? = some (adz z k2, .inr (4, vs)) := by rw [wd_at hk2, hV2]
  have hin : vp_in (nI j) n := vp_in_nI hj hn
  have hlt : (nI j).toNatClampNeg < n := by rw [nI_clamp (by omega)]; exact hj
  obtain ⟨r', hr', cellV, g1, g2, g3, -⟩ := hP k2 _ hv
  have hcls := (X.2.1.1 4 (RX4, TX4, 4) rfl).2
  obtain ⟨kA, comp, k1, kk2, k3, -⟩ := (X.2.1.2 3 _ rfl).2
  have hcomp : comp = dd.1 4 := Option.some.inj (k3.symm.trans hcls.1)
  subst hcomp
  obtain ⟨kC, hkC, -⟩ := hcls.2
  refine W.aast X.1.1 X.1.2.1 (hP k _ ha) (fun q h => by cases h) (fun h => by cases h) k1 kk2 rfl hkC ⟨fun q => hin (Or.inl q), by show _ < (arrV _ _ _).slots.size; rw [arrV_size]; exact hlt⟩ g1 (fun q h => by rw [g3] at h; cases h) (by rw [g2]; exact hkC) (by rw [g2]; exact va_assign hcls) rfl rfl hdg fun H1 e z1 oq => ?_
  have hP1 := va_P.set hP wd_Dz ha (e := .inl (t.2.2.2, n, .inr (.inr (.inr (.inr (va_up f j (some (adz z k2)))))))) (by
    show H1[adz z k]? = some (vp_cell _ _)
    rw [e]
    rw [vp_cell_q, vp_cell_q, arrV_store, nI_clamp (by omega)]
    congr 2
    funext q
    by_cases hq : q = j
    · subst hq
      simp [updV, va_up, va_rf]
    · simp [updV, va_up, hq]) oq
  rw [wd_set hk] at hP1
  exact kk _ H1 _ (va_up_self _ _ _) (fun i hi => va_up_ne _ _ hi) hP1 z1 (hS.put z1 oq (Nat.le_add_right z k))
end SZ
theorem PlP.grow {N N' : Nat} {ad : Nat → Nat} {V : Nat → va_E} {t : CL4} {b : Nat} {x : PlC} (h : PlP N ad V t b x) (q : N ≤ N') : PlP N' ad V t b x := ⟨Nat.le_trans h.le q, h.2⟩
theorem CuP.grow {N N' : Nat} {ad : Nat → Nat} {V : Nat → va_E} {t : CL4} {b : Nat} {x : CuC} (h : CuP N ad V t b x) (q : N ≤ N') : CuP N' ad V t b x := ⟨Nat.le_trans h.le q, h.2⟩
theorem SoP.grow {N N' : Nat} {ad : Nat → Nat} {V : Nat → va_E} {t : CL4} {b : Nat} {x : SoC} (h : SoP N ad V t b x) (q : N ≤ N') : SoP N' ad V t b x := ⟨Nat.le_trans h.le q, h.2⟩
theorem HoP.grow {N N' : Nat} {ad : Nat → Nat} {V : Nat → va_E} {t : CL4} {b : Nat} {x : HoC} (h : HoP N ad V t b x) (q : N ≤ N') : HoP N' ad V t b x := ⟨Nat.le_trans h.le q, h.2⟩
theorem TxP.grow {N N' : Nat} {ad : Nat → Nat} {V : Nat → va_E} {t : CL4} {b : Nat} {x : TxC} (h : TxP N ad V t b x) (q : N ≤ N') : TxP N' ad V t b x := ⟨Nat.le_trans h.le q, h.2⟩
theorem HaP.grow {N N' : Nat} {ad : Nat → Nat} {V : Nat → va_E} {t : CL4} {b : Nat} {x : Nat → Nat} (h : HaP N ad V t b x) (q : N ≤ N') : HaP N' ad V t b x := ⟨Nat.lt_of_lt_of_le h.1 q, h.2⟩
theorem HsP.grow {N N' : Nat} {ad : Nat → Nat} {V : Nat → va_E} {t : CL4} {b : Nat} {x : Nat → StC} (h : HsP N ad V t b x) (q : N ≤ N') : HsP N' ad V t b x := ⟨Nat.le_trans h.1 q, fun i hi => ⟨(h.2 i hi).1.grow q, (h.2 i hi).2.1.grow q, (h.2 i hi).2.2.grow q⟩⟩
abbrev pl0 : PlC := mkP 0 0 (nI 7) (fun _ => 0) (fun _ => 0) (fun _ _ => 0) (fun _ => 0)
abbrev cu0 : CuC := mkC 0 (fun _ => 0) (fun _ => 0) (fun _ _ => 0)
abbrev so0 : SoC := mkO (-1) (nI 0)
abbrev st0 : StC := mkS pl0 cu0 (-1) (nI 0)
def l_X6_init : Nat → Nat → (Nat → Int32) → (Nat → Int32)
  | 0, _, u => u
  | d + 1, i, u => l_X6_init d (i + 1) (upd u (21 + i) (nI 100))
def row0 : Nat → Int32 := l_X6_init 56 0 (upd (upd (fun _ => 0) 2 (nI 7)) 4 (-5))

def rmX0_init : Room := { frames := 1, cells := 1, slots := 60, locals := 12 }
set_option maxHeartbeats 4000000 in
set_option maxRecDepth 100000 in
theorem c_X0_init {l : Launch} {dd : va_G} {t : CL4} {z b : Nat} {V : Nat → va_E} (hob : V b = .inr (0, [.null, .int 0])) : MI l dd t z b V yX0_init cX0_init 1 rmX0_init 1 60 (fun V1 => TxP (b + 2) (adz z) V1 t b (mkX (fun _ => 0) 0) ∧ ∀ k, k < b → V1 k = V k) := by
  refine MI.of (by decide +kernel) (by decide +kernel) (Nat.le_of_ble_eq_true rfl) ?_
  intro p e s m as below meth c Q X hC hm H hz hP hS ls hl kr
  have X : WX p s m as c cX0_init 1 RX0 dd t := X
  have hx := X.1.1
  have hb := X.1.2.1
  have hlow : ∀ k, k < b → V k = V k := fun _ _ => rfl
  have hz0 := hz
  refine lv_aload_n hx hb dX0_init_0 rfl (lv_at hl 0 rfl) ?_
  refine W.objInit hx hb X.1.2.2.2.1 (X.1.2.2.2.2 _ m75) (X.1.2.2.2.2 _ m10) (X.1.2.2.2.2 _ m11) rfl (by rw [X.1.2.2.1]; exact hl.1) rfl dX0_init_1 (Nat.le_of_ble_eq_true rfl) (Nat.le_of_ble_eq_true rfl) ?_
  refine W.eq (g2 := F0 m 4 ls []) rfl ?_
  refine lv_aload_n hx hb dX0_init_4 rfl (lv_at hl 0 rfl) ?_
  refine lv_bipush (v := nI 60) hx hb dX0_init_5 (by decide) ?_
  refine c_newc (n' := 60) X hP hz hS m76 (by decide) (by decide) (by decide) (Nat.le_of_ble_eq_true rfl) (Nat.le_of_ble_eq_true rfl) dX0_init_7 (fun V1 H1 ha1 h2 hP hz hS => ?_)
  have hP : HP dd (b + 2) (adz z) V1 H1 := hP
  have hz : H1.size = z + (b + 2) := hz
  have ha1 : arr t.2.1 60 (fun _ => 0) (V1 (b + 1)) := ha1
  have hob : V1 b = .inr (0, [.null, .int 0]) := (h2 _ (by omega)).trans hob
  have hlow : ∀ k, k < b → V1 k = V k := fun k hk => (h2 k (by omega)).trans (hlow k hk)
  refine W.widen (k := 1) (n := 60) (Nat.le_of_ble_eq_true rfl) (Nat.le_of_ble_eq_true rfl) ?_
  refine r_putF (ci := 0) (k := b) (ty := (.array .char)) X hP hS rfl inlX0 tyX0 tyX0_ok nmX0 (by omega) hob 0 (by decide) m77 rfl hm rfl (by decide +kernel) rfl rfl (Nat.le_of_ble_eq_true rfl) rfl dX0_init_9 (fun V2 H2 locs2 hnb h2 hP hz2 hS => ?_)
  have hz := hz2.trans hz
  have hP : HP dd (b + 2) (adz z) V2 H2 := hP
  have hz : H2.size = z + (b + 2) := hz
  have hob : V2 b = .inr (0, [.ref (adz z (b + 1)), .int 0]) := hnb
  have ha1 : arr t.2.1 60 (fun _ => 0) (V2 (b + 1)) := by rw [h2 _ (by omega)]; exact ha1
  have hlow : ∀ k, k < b → V2 k = V k := fun k hk => (h2 k (by omega)).trans (hlow k hk)
  refine lv_aload_n hx hb dX0_init_12 rfl (lv_at hl 0 rfl) ?_
  refine lv_iconst (v := nI 0) hx hb dX0_init_13 (by decide) ?_
  refine r_putZ (ci := 0) (k := b) (ty := .int) X hP hS rfl inlX0 tyX0 tyX0_ok nmX0 (by omega) hob 1 (by decide) m78 rfl (by decide +kernel) rfl rfl (Nat.le_of_ble_eq_true rfl) rfl dX0_init_14 (fun V3 H3 locs3 hnb h2 hP hz2 hS => ?_)
  have hz := hz2.trans hz
  have hP : HP dd (b + 2) (adz z) V3 H3 := hP
  have hz : H3.size = z + (b + 2) := hz
  have hob : V3 b = .inr (0, [.ref (adz z (b + 1)), .int (nI 0)]) := hnb
  have ha1 : arr t.2.1 60 (fun _ => 0) (V3 (b + 1)) := by rw [h2 _ (by omega)]; exact ha1
  have hlow : ∀ k, k < b → V3 k = V k := fun k hk => (h2 k (by omega)).trans (hlow k hk)
  exact kr 17 ls _ _ _ hP hz hS ⟨⟨by omega, hob, ha1, Nat.zero_le _⟩, hlow⟩ dX0_init_17
def rmX1_init : Room := { frames := 1, cells := 43, slots := 400, locals := 12 }
set_option maxHeartbeats 4000000 in
set_option maxRecDepth 100000 in
theorem c_X1_init {l : Launch} {dd : va_G} {t : CL4} {z b : Nat} {V : Nat → va_E} (hob : V b = .inr (1, [.int 0, .null, .null, .null])) : MI l dd t z b V yX1_init cX1_init 1 rmX1_init 43 400 (fun V1 => CuP (b + 44) (adz z) V1 t b cu0 ∧ ∀ k, k < b → V1 k = V k) := by
  refine MI.of (by decide +kernel) (by decide +kernel) (Nat.le_of_ble_eq_true rfl) ?_
  intro p e s m as below meth c Q X hC hm H hz hP hS ls hl kr
  have X : WX p s m as c cX1_init 1 RX1 dd t := X
  have hx := X.1.1
  have hb := X.1.2.1
  have hlow : ∀ k, k < b → V k = V k := fun _ _ => rfl
  have hz0 := hz
  refine lv_aload_n hx hb dX1_init_0 rfl (lv_at hl 0 rfl) ?_
  refine W.objInit hx hb X.1.2.2.2.1 (X.1.2.2.2.2 _ m58) (X.1.2.2.2.2 _ m10) (X.1.2.2.2.2 _ m11) rfl (by rw [X.1.2.2.1]; exact hl.1) rfl dX1_init_1 (Nat.le_of_ble_eq_true rfl) (Nat.le_of_ble_eq_true rfl) ?_
  refine W.eq (g2 := F0 m 4 ls []) rfl ?_
  refine lv_aload_n hx hb dX1_init_4 rfl (lv_at hl 0 rfl) ?_
  refine lv_iconst (v := nI 0) hx hb dX1_init_5 (by decide) ?_
  refine r_putZ (ci := 1) (k := b) (ty := .int) X hP hS rfl inlX1 tyX1 tyX1_ok nmX1 (by omega) hob 0 (by decide) m59 rfl (by decide +kernel) rfl rfl (Nat.le_of_ble_eq_true rfl) rfl dX1_init_6 (fun V1 H1 locs1 hnb h2 hP hz2 hS => ?_)
  have hz := hz2.trans hz
  have hP : HP dd (b + 1) (adz z) V1 H1 := hP
  have hz : H1.size = z + (b + 1) := hz
  have hob : V1 b = .inr (1, [.int (nI 0), .null, .null, .null]) := hnb
  have hlow : ∀ k, k < b → V1 k = V k := fun k hk => (h2 k (by omega)).trans (hlow k hk)
  refine lv_aload_n hx hb dX1_init_9 rfl (lv_at hl 0 rfl) ?_
  refine lv_bipush (v := nI 40) hx hb dX1_init_10 (by decide) ?_
  refine c_newa (n' := 40) X hP hz hS m27 (by decide) (by decide) (by decide) (Nat.le_of_ble_eq_true rfl) (Nat.le_of_ble_eq_true rfl) dX1_init_12 (fun V2 H2 ha2 h2 hP hz hS => ?_)
  have hP : HP dd (b + 2) (adz z) V2 H2 := hP
  have hz : H2.size = z + (b + 2) := hz
  have ha2 : arr t.1 40 (fun _ => 0) (V2 (b + 1)) := ha2
  have hob : V2 b = .inr (1, [.int (nI 0), .null, .null, .null]) := (h2 _ (by omega)).trans hob
  have hlow : ∀ k, k < b → V2 k = V k := fun k hk => (h2 k (by omega)).trans (hlow k hk)
  refine W.widen (k := 1) (n := 40) (Nat.le_of_ble_eq_true rfl) (Nat.le_of_ble_eq_true rfl) ?_
  refine r_putF (ci := 1) (k := b) (ty := (.array .int)) X hP hS rfl inlX1 tyX1 tyX1_ok nmX1 (by omega) hob 1 (by decide) m60 rfl hm rfl (by decide +kernel) rfl rfl (Nat.le_of_ble_eq_true rfl) rfl dX1_init_14 (fun V3 H3 locs3 hnb h2 hP hz2 hS => ?_)
  have hz := hz2.trans hz
  have hP : HP dd (b + 2) (adz z) V3 H3 := hP
  have hz : H3.size = z + (b + 2) := hz
  have hob : V3 b = .inr (1, [.int (nI 0), .ref (adz z (b + 1)), .null, .null]) := hnb
  have ha2 : arr t.1 40 (fun _ => 0) (V3 (b + 1)) := by rw [h2 _ (by omega)]; exact ha2
  have hlow : ∀ k, k < b → V3 k = V k := fun k hk => (h2 k (by omega)).trans (hlow k hk)
  refine lv_aload_n hx hb dX1_init_17 rfl (lv_at hl 0 rfl) ?_
  refine lv_bipush (v := nI 40) hx hb dX1_init_18 (by decide) ?_
  refine c_newa (n' := 40) X hP hz hS m27 (by decide) (by decide) (by decide) (Nat.le_of_ble_eq_true rfl) (Nat.le_of_ble_eq_true rfl) dX1_init_20 (fun V4 H4 ha4 h2 hP hz hS => ?_)
  have hP : HP dd (b + 3) (adz z) V4 H4 := hP
  have hz : H4.size = z + (b + 3) := hz
  have ha4 : arr t.1 40 (fun _ => 0) (V4 (b + 2)) := ha4
  have hob : V4 b = .inr (1, [.int (nI 0), .ref (adz z (b + 1)), .null, .null]) := (h2 _ (by omega)).trans hob
  have ha2 : arr t.1 40 (fun _ => 0) (V4 (b + 1)) := by rw [h2 _ (by omega)]; exact ha2
  have hlow : ∀ k, k < b → V4 k = V k := fun k hk => (h2 k (by omega)).trans (hlow k hk)
  refine W.widen (k := 2) (n := 80) (Nat.le_of_ble_eq_true rfl) (Nat.le_of_ble_eq_true rfl) ?_
  refine r_putF (ci := 1) (k := b) (ty := (.array .int)) X hP hS rfl inlX1 tyX1 tyX1_ok nmX1 (by omega) hob 2 (by decide) m61 rfl hm rfl (by decide +kernel) rfl rfl (Nat.le_of_ble_eq_true rfl) rfl dX1_init_22 (fun V5 H5 locs5 hnb h2 hP hz2 hS => ?_)
  have hz := hz2.trans hz
  have hP : HP dd (b + 3) (adz z) V5 H5 := hP
  have hz : H5.size = z + (b + 3) := hz
  have hob : V5 b = .inr (1, [.int (nI 0), .ref (adz z (b + 1)), .ref (adz z (b + 2)), .null]) := hnb
  have ha2 : arr t.1 40 (fun _ => 0) (V5 (b + 1)) := by rw [h2 _ (by omega)]; exact ha2
  have ha4 : arr t.1 40 (fun _ => 0) (V5 (b + 2)) := by rw [h2 _ (by omega)]; exact ha4
  have hlow : ∀ k, k < b → V5 k = V k := fun k hk => (h2 k (by omega)).trans (hlow k hk)
  refine lv_aload_n hx hb dX1_init_25 rfl (lv_at hl 0 rfl) ?_
  refine lv_bipush (v := nI 40) hx hb dX1_init_26 (by decide) ?_
  refine lv_bipush (v := nI 7) hx hb dX1_init_28 (by decide) ?_
  refine c_mna (n := 40) (k := 7) X hC hP hz hS m62 m27 (by decide) (by decide) (Nat.le_of_ble_eq_true rfl) (Nat.le_of_ble_eq_true rfl) dX1_init_30 (fun V6 H6 hg6 hr6 h2 hP hz hS => ?_)
  have hP : HP dd (b + 44) (adz z) V6 H6 := hP
  have hz : H6.size = z + (b + 44) := hz
  have hg6 : refs t.2.2.1 40 (fun j => adz z (b + 4 + j)) (V6 (b + 3)) := hg6
  have hr6 : ∀ j, j < 40 → arr t.1 7 (fun _ => 0) (V6 (b + 4 + j)) := hr6
  have hob : V6 b = .inr (1, [.int (nI 0), .ref (adz z (b + 1)), .ref (adz z (b + 2)), .null]) := (h2 _ (by omega)).trans hob
  have ha2 : arr t.1 40 (fun _ => 0) (V6 (b + 1)) := by rw [h2 _ (by omega)]; exact ha2
  have ha4 : arr t.1 40 (fun _ => 0) (V6 (b + 2)) := by rw [h2 _ (by omega)]; exact ha4
  have hlow : ∀ k, k < b → V6 k = V k := fun k hk => (h2 k (by omega)).trans (hlow k hk)
  refine W.widen (k := 43) (n := 400) (Nat.le_of_ble_eq_true rfl) (Nat.le_of_ble_eq_true rfl) ?_
  refine r_putF (ci := 1) (k := b) (ty := (.array (.array .int))) X hP hS rfl inlX1 tyX1 tyX1_ok nmX1 (by omega) hob 3 (by decide) m63 rfl hm rfl (by decide +kernel) rfl rfl (Nat.le_of_ble_eq_true rfl) rfl dX1_init_34 (fun V7 H7 locs7 hnb h2 hP hz2 hS => ?_)
  have hz := hz2.trans hz
  have hP : HP dd (b + 44) (adz z) V7 H7 := hP
  have hz : H7.size = z + (b + 44) := hz
  have hob : V7 b = .inr (1, [.int (nI 0), .ref (adz z (b + 1)), .ref (adz z (b + 2)), .ref (adz z (b + 3))]) := hnb
  have ha2 : arr t.1 40 (fun _ => 0) (V7 (b + 1)) := by rw [h2 _ (by omega)]; exact ha2
  have ha4 : arr t.1 40 (fun _ => 0) (V7 (b + 2)) := by rw [h2 _ (by omega)]; exact ha4
  have hg6 : refs t.2.2.1 40 (fun j => adz z (b + 4 + j)) (V7 (b + 3)) := by rw [h2 _ (by omega)]; exact hg6
  have hr6 : ∀ j, j < 40 → arr t.1 7 (fun _ => 0) (V7 (b + 4 + j)) := fun j hj => by rw [h2 _ (by omega)]; exact hr6 j hj
  have hlow : ∀ k, k < b → V7 k = V k := fun k hk => (h2 k (by omega)).trans (hlow k hk)
  exact kr 37 ls _ _ _ hP hz hS ⟨⟨by omega, hob, ha2, ha4, hg6, hr6, Nat.zero_le _⟩, hlow⟩ dX1_init_37
def rmX3_init : Room := { frames := 1, cells := 11, slots := 85, locals := 12 }
set_option maxHeartbeats 4000000 in
set_option maxRecDepth 100000 in
theorem c_X3_init {l : Launch} {dd : va_G} {t : CL4} {z b : Nat} {V : Nat → va_E} (hob : V b = .inr (3, [.int 0, .int 0, .int 0, .null, .null, .null, .null])) : MI l dd t z b V yX3_init cX3_init 1 rmX3_init 11 85 (fun V1 => PlP (b + 12) (adz z) V1 t b pl0 ∧ ∀ k, k < b → V1 k = V k) := by
  refine MI.of (by decide +kernel) (by decide +kernel) (Nat.le_of_ble_eq_true rfl) ?_
  intro p e s m as below meth c Q X hC hm H hz hP hS ls hl kr
  have X : WX p s m as c cX3_init 1 RX3 dd t := X
  have hx := X.1.1
  have hb := X.1.2.1
  have hlow : ∀ k, k < b → V k = V k := fun _ _ => rfl
  have hz0 := hz
  refine lv_aload_n hx hb dX3_init_0 rfl (lv_at hl 0 rfl) ?_
  refine W.objInit hx hb X.1.2.2.2.1 (X.1.2.2.2.2 _ m46) (X.1.2.2.2.2 _ m10) (X.1.2.2.2.2 _ m11) rfl (by rw [X.1.2.2.1]; exact hl.1) rfl dX3_init_1 (Nat.le_of_ble_eq_true rfl) (Nat.le_of_ble_eq_true rfl) ?_
  refine W.eq (g2 := F0 m 4 ls []) rfl ?_
  refine lv_aload_n hx hb dX3_init_4 rfl (lv_at hl 0 rfl) ?_
  refine lv_iconst (v := nI 0) hx hb dX3_init_5 (by decide) ?_
  refine r_putZ (ci := 3) (k := b) (ty := .int) X hP hS rfl inlX3 tyX3 tyX3_ok nmX3 (by omega) hob 0 (by decide) m47 rfl (by decide +kernel) rfl rfl (Nat.le_of_ble_eq_true rfl) rfl dX3_init_6 (fun V1 H1 locs1 hnb h2 hP hz2 hS => ?_)
  have hz := hz2.trans hz
  have hP : HP dd (b + 1) (adz z) V1 H1 := hP
  have hz : H1.size = z + (b + 1) := hz
  have hob : V1 b = .inr (3, [.int (nI 0), .int 0, .int 0, .null, .null, .null, .null]) := hnb
  have hlow : ∀ k, k < b → V1 k = V k := fun k hk => (h2 k (by omega)).trans (hlow k hk)
  refine lv_aload_n hx hb dX3_init_9 rfl (lv_at hl 0 rfl) ?_
  refine lv_iconst (v := nI 0) hx hb dX3_init_10 (by decide) ?_
  refine r_putZ (ci := 3) (k := b) (ty := .int) X hP hS rfl inlX3 tyX3 tyX3_ok nmX3 (by omega) hob 1 (by decide) m48 rfl (by decide +kernel) rfl rfl (Nat.le_of_ble_eq_true rfl) rfl dX3_init_11 (fun V2 H2 locs2 hnb h2 hP hz2 hS => ?_)
  have hz := hz2.trans hz
  have hP : HP dd (b + 1) (adz z) V2 H2 := hP
  have hz : H2.size = z + (b + 1) := hz
  have hob : V2 b = .inr (3, [.int (nI 0), .int (nI 0), .int 0, .null, .null, .null, .null]) := hnb
  have hlow : ∀ k, k < b → V2 k = V k := fun k hk => (h2 k (by omega)).trans (hlow k hk)
  refine lv_aload_n hx hb dX3_init_14 rfl (lv_at hl 0 rfl) ?_
  refine lv_bipush (v := nI 7) hx hb dX3_init_15 (by decide) ?_
  refine r_putZ (ci := 3) (k := b) (ty := .int) X hP hS rfl inlX3 tyX3 tyX3_ok nmX3 (by omega) hob 2 (by decide) m49 rfl (by decide +kernel) rfl rfl (Nat.le_of_ble_eq_true rfl) rfl dX3_init_17 (fun V3 H3 locs3 hnb h2 hP hz2 hS => ?_)
  have hz := hz2.trans hz
  have hP : HP dd (b + 1) (adz z) V3 H3 := hP
  have hz : H3.size = z + (b + 1) := hz
  have hob : V3 b = .inr (3, [.int (nI 0), .int (nI 0), .int (nI 7), .null, .null, .null, .null]) := hnb
  have hlow : ∀ k, k < b → V3 k = V k := fun k hk => (h2 k (by omega)).trans (hlow k hk)
  refine lv_aload_n hx hb dX3_init_20 rfl (lv_at hl 0 rfl) ?_
  refine lv_bipush (v := nI 7) hx hb dX3_init_21 (by decide) ?_
  refine c_newa (n' := 7) X hP hz hS m27 (by decide) (by decide) (by decide) (Nat.le_of_ble_eq_true rfl) (Nat.le_of_ble_eq_true rfl) dX3_init_23 (fun V4 H4 ha4 h2 hP hz hS => ?_)
  have hP : HP dd (b + 2) (adz z) V4 H4 := hP
  have hz : H4.size = z + (b + 2) := hz
  have ha4 : arr t.1 7 (fun _ => 0) (V4 (b + 1)) := ha4
  have hob : V4 b = .inr (3, [.int (nI 0), .int (nI 0), .int (nI 7), .null, .null, .null, .null]) := (h2 _ (by omega)).trans hob
  have hlow : ∀ k, k < b → V4 k = V k := fun k hk => (h2 k (by omega)).trans (hlow k hk)
  refine W.widen (k := 1) (n := 7) (Nat.le_of_ble_eq_true rfl) (Nat.le_of_ble_eq_true rfl) ?_
  refine r_putF (ci := 3) (k := b) (ty := (.array .int)) X hP hS rfl inlX3 tyX3 tyX3_ok nmX3 (by omega) hob 3 (by decide) m50 rfl hm rfl (by decide +kernel) rfl rfl (Nat.le_of_ble_eq_true rfl) rfl dX3_init_25 (fun V5 H5 locs5 hnb h2 hP hz2 hS => ?_)
  have hz := hz2.trans hz
  have hP : HP dd (b + 2) (adz z) V5 H5 := hP
  have hz : H5.size = z + (b + 2) := hz
  have hob : V5 b = .inr (3, [.int (nI 0), .int (nI 0), .int (nI 7), .ref (adz z (b + 1)), .null, .null, .null]) := hnb
  have ha4 : arr t.1 7 (fun _ => 0) (V5 (b + 1)) := by rw [h2 _ (by omega)]; exact ha4
  have hlow : ∀ k, k < b → V5 k = V k := fun k hk => (h2 k (by omega)).trans (hlow k hk)
  refine lv_aload_n hx hb dX3_init_28 rfl (lv_at hl 0 rfl) ?_
  refine lv_bipush (v := nI 8) hx hb dX3_init_29 (by decide) ?_
  refine c_newa (n' := 8) X hP hz hS m27 (by decide) (by decide) (by decide) (Nat.le_of_ble_eq_true rfl) (Nat.le_of_ble_eq_true rfl) dX3_init_31 (fun V6 H6 ha6 h2 hP hz hS => ?_)
  have hP : HP dd (b + 3) (adz z) V6 H6 := hP
  have hz : H6.size = z + (b + 3) := hz
  have ha6 : arr t.1 8 (fun _ => 0) (V6 (b + 2)) := ha6
  have hob : V6 b = .inr (3, [.int (nI 0), .int (nI 0), .int (nI 7), .ref (adz z (b + 1)), .null, .null, .null]) := (h2 _ (by omega)).trans hob
  have ha4 : arr t.1 7 (fun _ => 0) (V6 (b + 1)) := by rw [h2 _ (by omega)]; exact ha4
  have hlow : ∀ k, k < b → V6 k = V k := fun k hk => (h2 k (by omega)).trans (hlow k hk)
  refine W.widen (k := 2) (n := 15) (Nat.le_of_ble_eq_true rfl) (Nat.le_of_ble_eq_true rfl) ?_
  refine r_putF (ci := 3) (k := b) (ty := (.array .int)) X hP hS rfl inlX3 tyX3 tyX3_ok nmX3 (by omega) hob 4 (by decide) m51 rfl hm rfl (by decide +kernel) rfl rfl (Nat.le_of_ble_eq_true rfl) rfl dX3_init_33 (fun V7 H7 locs7 hnb h2 hP hz2 hS => ?_)
  have hz := hz2.trans hz
  have hP : HP dd (b + 3) (adz z) V7 H7 := hP
  have hz : H7.size = z + (b + 3) := hz
  have hob : V7 b = .inr (3, [.int (nI 0), .int (nI 0), .int (nI 7), .ref (adz z (b + 1)), .ref (adz z (b + 2)), .null, .null]) := hnb
  have ha4 : arr t.1 7 (fun _ => 0) (V7 (b + 1)) := by rw [h2 _ (by omega)]; exact ha4
  have ha6 : arr t.1 8 (fun _ => 0) (V7 (b + 2)) := by rw [h2 _ (by omega)]; exact ha6
  have hlow : ∀ k, k < b → V7 k = V k := fun k hk => (h2 k (by omega)).trans (hlow k hk)
  refine lv_aload_n hx hb dX3_init_36 rfl (lv_at hl 0 rfl) ?_
  refine lv_bipush (v := nI 7) hx hb dX3_init_37 (by decide) ?_
  refine lv_bipush (v := nI 8) hx hb dX3_init_39 (by decide) ?_
  refine c_mna (n := 7) (k := 8) X hC hP hz hS m52 m27 (by decide) (by decide) (Nat.le_of_ble_eq_true rfl) (Nat.le_of_ble_eq_true rfl) dX3_init_41 (fun V8 H8 hg8 hr8 h2 hP hz hS => ?_)
  have hP : HP dd (b + 11) (adz z) V8 H8 := hP
  have hz : H8.size = z + (b + 11) := hz
  have hg8 : refs t.2.2.1 7 (fun j => adz z (b + 4 + j)) (V8 (b + 3)) := hg8
  have hr8 : ∀ j, j < 7 → arr t.1 8 (fun _ => 0) (V8 (b + 4 + j)) := hr8
  have hob : V8 b = .inr (3, [.int (nI 0), .int (nI 0), .int (nI 7), .ref (adz z (b + 1)), .ref (adz z (b + 2)), .null, .null]) := (h2 _ (by omega)).trans hob
  have ha4 : arr t.1 7 (fun _ => 0) (V8 (b + 1)) := by rw [h2 _ (by omega)]; exact ha4
  have ha6 : arr t.1 8 (fun _ => 0) (V8 (b + 2)) := by rw [h2 _ (by omega)]; exact ha6
  have hlow : ∀ k, k < b → V8 k = V k := fun k hk => (h2 k (by omega)).trans (hlow k hk)
  refine W.widen (k := 10) (n := 78) (Nat.le_of_ble_eq_true rfl) (Nat.le_of_ble_eq_true rfl) ?_
  refine r_putF (ci := 3) (k := b) (ty := (.array (.array .int))) X hP hS rfl inlX3 tyX3 tyX3_ok nmX3 (by omega) hob 5 (by decide) m53 rfl hm rfl (by decide +kernel) rfl rfl (Nat.le_of_ble_eq_true rfl) rfl dX3_init_45 (fun V9 H9 locs9 hnb h2 hP hz2 hS => ?_)
  have hz := hz2.trans hz
  have hP : HP dd (b + 11) (adz z) V9 H9 := hP
  have hz : H9.size = z + (b + 11) := hz
  have hob : V9 b = .inr (3, [.int (nI 0), .int (nI 0), .int (nI 7), .ref (adz z (b + 1)), .ref (adz z (b + 2)), .ref (adz z (b + 3)), .null]) := hnb
  have ha4 : arr t.1 7 (fun _ => 0) (V9 (b + 1)) := by rw [h2 _ (by omega)]; exact ha4
  have ha6 : arr t.1 8 (fun _ => 0) (V9 (b + 2)) := by rw [h2 _ (by omega)]; exact ha6
  have hg8 : refs t.2.2.1 7 (fun j => adz z (b + 4 + j)) (V9 (b + 3)) := by rw [h2 _ (by omega)]; exact hg8
  have hr8 : ∀ j, j < 7 → arr t.1 8 (fun _ => 0) (V9 (b + 4 + j)) := fun j hj => by rw [h2 _ (by omega)]; exact hr8 j hj
  have hlow : ∀ k, k < b → V9 k = V k := fun k hk => (h2 k (by omega)).trans (hlow k hk)
  refine lv_aload_n hx hb dX3_init_48 rfl (lv_at hl 0 rfl) ?_
  refine lv_bipush (v := nI 7) hx hb dX3_init_49 (by decide) ?_
  refine c_newa (n' := 7) X hP hz hS m27 (by decide) (by decide) (by decide) (Nat.le_of_ble_eq_true rfl) (Nat.le_of_ble_eq_true rfl) dX3_init_51 (fun V10 H10 ha10 h2 hP hz hS => ?_)
  have hP : HP dd (b + 12) (adz z) V10 H10 := hP
  have hz : H10.size = z + (b + 12) := hz
  have ha10 : arr t.1 7 (fun _ => 0) (V10 (b + 11)) := ha10
  have hob : V10 b = .inr (3, [.int (nI 0), .int (nI 0), .int (nI 7), .ref (adz z (b + 1)), .ref (adz z (b + 2)), .ref (adz z (b + 3)), .null]) := (h2 _ (by omega)).trans hob
  have ha4 : arr t.1 7 (fun _ => 0) (V10 (b + 1)) := by rw [h2 _ (by omega)]; exact ha4
  have ha6 : arr t.1 8 (fun _ => 0) (V10 (b + 2)) := by rw [h2 _ (by omega)]; exact ha6
  have hg8 : refs t.2.2.1 7 (fun j => adz z (b + 4 + j)) (V10 (b + 3)) := by rw [h2 _ (by omega)]; exact hg8
  have hr8 : ∀ j, j < 7 → arr t.1 8 (fun _ => 0) (V10 (b + 4 + j)) := fun j hj => by rw [h2 _ (by omega)]; exact hr8 j hj
  have hlow : ∀ k, k < b → V10 k = V k := fun k hk => (h2 k (by omega)).trans (hlow k hk)
  refine W.widen (k := 11) (n := 85) (Nat.le_of_ble_eq_true rfl) (Nat.le_of_ble_eq_true rfl) ?_
  refine r_putF (ci := 3) (k := b) (ty := (.array .int)) X hP hS rfl inlX3 tyX3 tyX3_ok nmX3 (by omega) hob 6 (by decide) m54 rfl hm rfl (by decide +kernel) rfl rfl (Nat.le_of_ble_eq_true rfl) rfl dX3_init_53 (fun V11 H11 locs11 hnb h2 hP hz2 hS => ?_)
  have hz := hz2.trans hz
  have hP : HP dd (b + 12) (adz z) V11 H11 := hP
  have hz : H11.size = z + (b + 12) := hz
  have hob : V11 b = .inr (3, [.int (nI 0), .int (nI 0), .int (nI 7), .ref (adz z (b + 1)), .ref (adz z (b + 2)), .ref (adz z (b + 3)), .ref (adz z (b + 11))]) := hnb
  have ha4 : arr t.1 7 (fun _ => 0) (V11 (b + 1)) := by rw [h2 _ (by omega)]; exact ha4
  have ha6 : arr t.1 8 (fun _ => 0) (V11 (b + 2)) := by rw [h2 _ (by omega)]; exact ha6
  have hg8 : refs t.2.2.1 7 (fun j => adz z (b + 4 + j)) (V11 (b + 3)) := by rw [h2 _ (by omega)]; exact hg8
  have hr8 : ∀ j, j < 7 → arr t.1 8 (fun _ => 0) (V11 (b + 4 + j)) := fun j hj => by rw [h2 _ (by omega)]; exact hr8 j hj
  have ha10 : arr t.1 7 (fun _ => 0) (V11 (b + 11)) := by rw [h2 _ (by omega)]; exact ha10
  have hlow : ∀ k, k < b → V11 k = V k := fun k hk => (h2 k (by omega)).trans (hlow k hk)
  exact kr 56 ls _ _ _ hP hz hS ⟨⟨by omega, hob, ha4, ha6, hg8, hr8, ha10, Nat.zero_le _, Nat.zero_le _⟩, hlow⟩ dX3_init_56
def rmX4_init : Room := { frames := 2, cells := 56, slots := 496, locals := 32 }
set_option maxHeartbeats 4000000 in
set_option maxRecDepth 100000 in
theorem c_X4_init {l : Launch} {dd : va_G} {t : CL4} {z b : Nat} {V : Nat → va_E} (hob : V b = .inr (4, [.null, .null, .int 0, .int 0])) : MI l dd t z b V yX4_init cX4_init 1 rmX4_init 56 496 (fun V1 => (SoP (b + 57) (adz z) V1 t b so0) ∧ (PlP (b + 57) (adz z) V1 t (b + 1) pl0) ∧ (CuP (b + 57) (adz z) V1 t (b + 13) cu0) ∧ ∀ k, k < b → V1 k = V k) := by
  refine MI.of (by decide +kernel) (by decide +kernel) (Nat.le_of_ble_eq_true rfl) ?_
  intro p e s m as below meth c Q X hC hm H hz hP hS ls hl kr
  have X : WX p s m as c cX4_init 1 RX4 dd t := X
  have hx := X.1.1
  have hb := X.1.2.1
  have hlow : ∀ k, k < b → V k = V k := fun _ _ => rfl
  have hz0 := hz
  refine lv_aload_n hx hb dX4_init_0 rfl (lv_at hl 0 rfl) ?_
  refine W.objInit hx hb X.1.2.2.2.1 (X.1.2.2.2.2 _ m32) (X.1.2.2.2.2 _ m10) (X.1.2.2.2.2 _ m11) rfl (by rw [X.1.2.2.1]; exact hl.1) rfl dX4_init_1 (Nat.le_of_ble_eq_true rfl) (Nat.le_of_ble_eq_true rfl) ?_
  refine W.eq (g2 := F0 m 4 ls []) rfl ?_
  refine lv_aload_n hx hb dX4_init_4 rfl (lv_at hl 0 rfl) ?_
  refine c_new (ci := 3) (fs := [.int 0, .int 0, .int 0, .null, .null, .null, .null]) X hP hz hS rfl inlX3 tyX3 tyX3_ok m33 m34 m35 (fun j hj => by rcases (show j = 0 ∨ j = 1 ∨ j = 2 ∨ j = 3 ∨ j = 4 ∨ j = 5 ∨ j = 6 by omega) with rfl | rfl | rfl | rfl | rfl | rfl | rfl <;> rfl) (Nat.le_of_ble_eq_true rfl) (Nat.le_of_ble_eq_true rfl) dX4_init_5 (fun V1 H1 hnw h2 hP hz hS => ?_)
  have hP : HP dd (b + 2) (adz z) V1 H1 := hP
  have hz : H1.size = z + (b + 2) := hz
  have hnw : V1 (b + 1) = .inr (3, [.int 0, .int 0, .int 0, .null, .null, .null, .null]) := hnw
  have hob : V1 b = .inr (4, [.null, .null, .int 0, .int 0]) := (h2 _ (by omega)).trans hob
  have hlow : ∀ k, k < b → V1 k = V k := fun k hk => (h2 k (by omega)).trans (hlow k hk)
  refine W.widen (k := 1) (n := 7) (Nat.le_of_ble_eq_true rfl) (Nat.le_of_ble_eq_true rfl) ?_
  refine lv_dup hx hb dX4_init_8 rfl ?_
  refine r_callI (b := b + 1) (rest := [.ref (adz z (b + 1)), .ref (adz z (b))]) (w := 11) (sl := 85) X hC hz hP hS (c_X3_init hnw) m45 m35 m44 m43 ⟨by decide +kernel, by decide +kernel, by decide +kernel⟩ (by decide +kernel) ⟨rfl, rfl⟩ ⟨Nat.le_of_ble_eq_true rfl, Nat.le_of_ble_eq_true rfl⟩ hl.1 (Nat.le_of_ble_eq_true rfl) ⟨Nat.le_of_ble_eq_true rfl, Nat.le_of_ble_eq_true rfl⟩ dX4_init_9 (fun V2 H2 locs2 hq hP hz hS => ?_)
  obtain ⟨hf2_0, hlo2⟩ := hq
  have hP : HP dd (b + 13) (adz z) V2 H2 := hP
  have hz : H2.size = z + (b + 13) := hz
  have hob : V2 b = .inr (4, [.null, .null, .int 0, .int 0]) := (hlo2 _ (by omega)).trans hob
  have hlow : ∀ k, k < b → V2 k = V k := fun k hk => (hlo2 k (by omega)).trans (hlow k hk)
  refine W.widen (k := 12) (n := 92) (Nat.le_of_ble_eq_true rfl) (Nat.le_of_ble_eq_true rfl) ?_
  refine r_putF (ci := 4) (k := b) (ty := (.object "SiteCuts$Places")) X hP hS rfl inlX4 tyX4 tyX4_ok nmX4 (by omega) hob 0 (by decide) m36 rfl hm rfl (by decide +kernel) rfl rfl (Nat.le_of_ble_eq_true rfl) rfl dX4_init_12 (fun V3 H3 locs3 hnb h2 hP hz2 hS => ?_)
  have hz := hz2.trans hz
  have hP : HP dd (b + 13) (adz z) V3 H3 := hP
  have hz : H3.size = z + (b + 13) := hz
  have hob : V3 b = .inr (4, [.ref (adz z (b + 1)), .null, .int 0, .int 0]) := hnb
  have hf2_0 := hf2_0.keep (V1 := V3) (fun k h8 h9 => h2 k (by omega))
  have hlow : ∀ k, k < b → V3 k = V k := fun k hk => (h2 k (by omega)).trans (hlow k hk)
  refine lv_aload_n hx hb dX4_init_15 rfl (lv_at hl 0 rfl) ?_
  refine c_new (ci := 1) (fs := [.int 0, .null, .null, .null]) X hP hz hS rfl inlX1 tyX1 tyX1_ok m37 m38 m39 (fun j hj => by rcases (show j = 0 ∨ j = 1 ∨ j = 2 ∨ j = 3 by omega) with rfl | rfl | rfl | rfl <;> rfl) (Nat.le_of_ble_eq_true rfl) (Nat.le_of_ble_eq_true rfl) dX4_init_16 (fun V4 H4 hnw h2 hP hz hS => ?_)
  have hP : HP dd (b + 14) (adz z) V4 H4 := hP
  have hz : H4.size = z + (b + 14) := hz
  have hnw : V4 (b + 13) = .inr (1, [.int 0, .null, .null, .null]) := hnw
  have hob : V4 b = .inr (4, [.ref (adz z (b + 1)), .null, .int 0, .int 0]) := (h2 _ (by omega)).trans hob
  have hf2_0 := hf2_0.keep (V1 := V4) (fun k h8 h9 => h2 k (by omega))
  have hlow : ∀ k, k < b → V4 k = V k := fun k hk => (h2 k (by omega)).trans (hlow k hk)
  refine W.widen (k := 13) (n := 96) (Nat.le_of_ble_eq_true rfl) (Nat.le_of_ble_eq_true rfl) ?_
  refine lv_dup hx hb dX4_init_19 rfl ?_
  refine r_callI (b := b + 13) (rest := [.ref (adz z (b + 13)), .ref (adz z (b))]) (w := 43) (sl := 400) X hC hz hP hS (c_X1_init hnw) m57 m39 m56 m55 ⟨by decide +kernel, by decide +kernel, by decide +kernel⟩ (by decide +kernel) ⟨rfl, rfl⟩ ⟨Nat.le_of_ble_eq_true rfl, Nat.le_of_ble_eq_true rfl⟩ hl.1 (Nat.le_of_ble_eq_true rfl) ⟨Nat.le_of_ble_eq_true rfl, Nat.le_of_ble_eq_true rfl⟩ dX4_init_20 (fun V5 H5 locs5 hq hP hz hS => ?_)
  obtain ⟨hf5_0, hlo5⟩ := hq
  have hP : HP dd (b + 57) (adz z) V5 H5 := hP
  have hz : H5.size = z + (b + 57) := hz
  have hob : V5 b = .inr (4, [.ref (adz z (b + 1)), .null, .int 0, .int 0]) := (hlo5 _ (by omega)).trans hob
  have hf2_0 := hf2_0.keep (V1 := V5) (fun k h8 h9 => hlo5 k (by omega))
  have hlow : ∀ k, k < b → V5 k = V k := fun k hk => (hlo5 k (by omega)).trans (hlow k hk)
  refine W.widen (k := 56) (n := 496) (Nat.le_of_ble_eq_true rfl) (Nat.le_of_ble_eq_true rfl) ?_
  refine r_putF (ci := 4) (k := b) (ty := (.object "SiteCuts$Cuts")) X hP hS rfl inlX4 tyX4 tyX4_ok nmX4 (by omega) hob 1 (by decide) m40 rfl hm rfl (by decide +kernel) rfl rfl (Nat.le_of_ble_eq_true rfl) rfl dX4_init_23 (fun V6 H6 locs6 hnb h2 hP hz2 hS => ?_)
  have hz := hz2.trans hz
  have hP : HP dd (b + 57) (adz z) V6 H6 := hP
  have hz : H6.size = z + (b + 57) := hz
  have hob : V6 b = .inr (4, [.ref (adz z (b + 1)), .ref (adz z (b + 13)), .int 0, .int 0]) := hnb
  have hf2_0 := hf2_0.keep (V1 := V6) (fun k h8 h9 => h2 k (by omega))
  have hf5_0 := hf5_0.keep (V1 := V6) (fun k h8 h9 => h2 k (by omega))
  have hlow : ∀ k, k < b → V6 k = V k := fun k hk => (h2 k (by omega)).trans (hlow k hk)
  refine lv_aload_n hx hb dX4_init_26 rfl (lv_at hl 0 rfl) ?_
  refine lv_iconst (v := (-1)) hx hb dX4_init_27 (by decide) ?_
  refine r_putZ (ci := 4) (k := b) (ty := .int) X hP hS rfl inlX4 tyX4 tyX4_ok nmX4 (by omega) hob 2 (by decide) m41 rfl (by decide +kernel) rfl rfl (Nat.le_of_ble_eq_true rfl) rfl dX4_init_28 (fun V7 H7 locs7 hnb h2 hP hz2 hS => ?_)
  have hz := hz2.trans hz
  have hP : HP dd (b + 57) (adz z) V7 H7 := hP
  have hz : H7.size = z + (b + 57) := hz
  have hob : V7 b = .inr (4, [.ref (adz z (b + 1)), .ref (adz z (b + 13)), .int ((-1)), .int 0]) := hnb
  have hf2_0 := hf2_0.keep (V1 := V7) (fun k h8 h9 => h2 k (by omega))
  have hf5_0 := hf5_0.keep (V1 := V7) (fun k h8 h9 => h2 k (by omega))
  have hlow : ∀ k, k < b → V7 k = V k := fun k hk => (h2 k (by omega)).trans (hlow k hk)
  refine lv_aload_n hx hb dX4_init_31 rfl (lv_at hl 0 rfl) ?_
  refine lv_iconst (v := nI 0) hx hb dX4_init_32 (by decide) ?_
  refine r_putZ (ci := 4) (k := b) (ty := .int) X hP hS rfl inlX4 tyX4 tyX4_ok nmX4 (by omega) hob 3 (by decide) m42 rfl (by decide +kernel) rfl rfl (Nat.le_of_ble_eq_true rfl) rfl dX4_init_33 (fun V8 H8 locs8 hnb h2 hP hz2 hS => ?_)
  have hz := hz2.trans hz
  have hP : HP dd (b + 57) (adz z) V8 H8 := hP
  have hz : H8.size = z + (b + 57) := hz
  have hob : V8 b = .inr (4, [.ref (adz z (b + 1)), .ref (adz z (b + 13)), .int ((-1)), .int (nI 0)]) := hnb
  have hf2_0 := hf2_0.keep (V1 := V8) (fun k h8 h9 => h2 k (by omega))
  have hf5_0 := hf5_0.keep (V1 := V8) (fun k h8 h9 => h2 k (by omega))
  have hlow : ∀ k, k < b → V8 k = V k := fun k hk => (h2 k (by omega)).trans (hlow k hk)
  exact kr 36 ls _ _ _ hP hz hS ⟨⟨by omega, hob⟩, hf2_0.grow (by omega), hf5_0.grow (by omega), hlow⟩ dX4_init_36
def rmX2_init : Room := { frames := 3, cells := 229, slots := 2004, locals := 52 }
set_option maxHeartbeats 4000000 in
set_option maxRecDepth 100000 in
theorem c_X2_init {l : Launch} {dd : va_G} {t : CL4} {z b : Nat} {V : Nat → va_E} (hob : V b = .inr (2, [.null, .int 0])) : MI l dd t z b V yX2_init cX2_init 2 rmX2_init 229 2004 (fun V1 => (HoP (b + 230) (adz z) V1 t b (mkH 0)) ∧ (HaP (b + 230) (adz z) V1 t (b + 1) (fun j => j)) ∧ (HsP (b + 230) (adz z) V1 t (b + 2) (fun _ => st0)) ∧ ∀ k, k < b → V1 k = V k) := by
  refine MI.of (by decide +kernel) (by decide +kernel) (Nat.le_of_ble_eq_true rfl) ?_
  intro p e s m as below meth c Q X hC hm H hz hP hS ls hl kr
  have X : WX p s m as c cX2_init 2 RX2 dd t := X
  have hx := X.1.1
  have hb := X.1.2.1
  have hlow : ∀ k, k < b → V k = V k := fun _ _ => rfl
  have hz0 := hz
  refine lv_aload_n hx hb dX2_init_0 rfl (lv_at hl 0 rfl) ?_
  refine W.objInit hx hb X.1.2.2.2.1 (X.1.2.2.2.2 _ m67) (X.1.2.2.2.2 _ m10) (X.1.2.2.2.2 _ m11) rfl (by rw [X.1.2.2.1]; exact hl.1) rfl dX2_init_1 (Nat.le_of_ble_eq_true rfl) (Nat.le_of_ble_eq_true rfl) ?_
  refine W.eq (g2 := F0 m 4 ls []) rfl ?_
  refine lv_aload_n hx hb dX2_init_4 rfl (lv_at hl 0 rfl) ?_
  refine lv_iconst (v := nI 4) hx hb dX2_init_5 (by decide) ?_
  refine c_newq X hC hP hz hS m68 (Nat.le_of_ble_eq_true rfl) (Nat.le_of_ble_eq_true rfl) dX2_init_6 (fun V1 H1 ha1 h2 hP hz hS => ?_)
  have hP : HP dd (b + 2) (adz z) V1 H1 := hP
  have hz : H1.size = z + (b + 2) := hz
  have ha1 : V1 (b + 1) = .inl (t.2.2.2, 4, .inr (.inr (.inr (.inr (fun _ => none))))) := ha1
  have hob : V1 b = .inr (2, [.null, .int 0]) := (h2 _ (by omega)).trans hob
  have hlow : ∀ k, k < b → V1 k = V k := fun k hk => (h2 k (by omega)).trans (hlow k hk)
  refine W.widen (k := 1) (n := 4) (Nat.le_of_ble_eq_true rfl) (Nat.le_of_ble_eq_true rfl) ?_
  refine r_putF (ci := 2) (k := b) (ty := (.array (.object "SiteCuts$State"))) X hP hS rfl inlX2 tyX2 tyX2_ok nmX2 (by omega) hob 0 (by decide) m69 rfl hm rfl (by decide +kernel) rfl rfl (Nat.le_of_ble_eq_true rfl) rfl dX2_init_9 (fun V2 H2 locs2 hnb h2 hP hz2 hS => ?_)
  have hz := hz2.trans hz
  have hP : HP dd (b + 2) (adz z) V2 H2 := hP
  have hz : H2.size = z + (b + 2) := hz
  have hob : V2 b = .inr (2, [.ref (adz z (b + 1)), .int 0]) := hnb
  have ha1 : V2 (b + 1) = .inl (t.2.2.2, 4, .inr (.inr (.inr (.inr (fun _ => none))))) := (h2 _ (by omega)).trans ha1
  have hlow : ∀ k, k < b → V2 k = V k := fun k hk => (h2 k (by omega)).trans (hlow k hk)
  refine lv_iconst (v := nI 0) hx hb dX2_init_12 (by decide) ?_
  refine lv_istore_n (lv' := [(1, .int (nI 0)), (0, .ref (adz z (b)))]) hx hb dX2_init_13 rfl hl (by decide) rfl (fun ls hl => ?_)
  refine lv_iload_n hx hb dX2_init_14 rfl (lv_at hl 0 rfl) ?_
  refine lv_iconst (v := nI 4) hx hb dX2_init_15 (by decide) ?_
  refine q_ge (x := 0) (y := 4) (tgt := 38) hx hb (by omega) (by omega) dX2_init_16 (by decide) (fun h => absurd h (by omega)) (fun _ => ?_)
  refine lv_aload_n hx hb dX2_init_19 rfl (lv_at hl 1 rfl) ?_
  refine r_get X hP (ci := 2) (k := b) rfl inlX2 (by omega) hob 0 (by decide) m69 rfl dX2_init_20 ?_
  refine lv_iload_n hx hb dX2_init_23 rfl (lv_at hl 0 rfl) ?_
  refine c_new (ci := 4) (fs := [.null, .null, .int 0, .int 0]) X hP hz hS rfl inlX4 tyX4 tyX4_ok m68 m13 m14 (fun j hj => by rcases (show j = 0 ∨ j = 1 ∨ j = 2 ∨ j = 3 by omega) with rfl | rfl | rfl | rfl <;> rfl) (Nat.le_of_ble_eq_true rfl) (Nat.le_of_ble_eq_true rfl) dX2_init_24 (fun V3 H3 hnw h2 hP hz hS => ?_)
  have hP : HP dd (b + 3) (adz z) V3 H3 := hP
  have hz : H3.size = z + (b + 3) := hz
  have hnw : V3 (b + 2) = .inr (4, [.null, .null, .int 0, .int 0]) := hnw
  have hob : V3 b = .inr (2, [.ref (adz z (b + 1)), .int 0]) := (h2 _ (by omega)).trans hob
  have ha1 : V3 (b + 1) = .inl (t.2.2.2, 4, .inr (.inr (.inr (.inr (fun _ => none))))) := (h2 _ (by omega)).trans ha1
  have hlow : ∀ k, k < b → V3 k = V k := fun k hk => (h2 k (by omega)).trans (hlow k hk)
  refine W.widen (k := 2) (n := 8) (Nat.le_of_ble_eq_true rfl) (Nat.le_of_ble_eq_true rfl) ?_
  refine lv_dup hx hb dX2_init_27 rfl ?_
  refine r_callI (b := b + 2) (rest := [.ref (adz z (b + 2)), .int (nI 0), .ref (adz z (b + 1))]) (w := 56) (sl := 496) X hC hz hP hS (c_X4_init hnw) m31 m14 m30 m71 ⟨by decide +kernel, by decide +kernel, by decide +kernel⟩ (by decide +kernel) ⟨rfl, rfl⟩ ⟨Nat.le_of_ble_eq_true rfl, Nat.le_of_ble_eq_true rfl⟩ hl.1 (Nat.le_of_ble_eq_true rfl) ⟨Nat.le_of_ble_eq_true rfl, Nat.le_of_ble_eq_true rfl⟩ dX2_init_28 (fun V4 H4 locs4 hq hP hz hS => ?_)
  obtain ⟨hf4_0, hf4_1, hf4_2, hlo4⟩ := hq
  have hP : HP dd (b + 59) (adz z) V4 H4 := hP
  have hz : H4.size = z + (b + 59) := hz
  have hob : V4 b = .inr (2, [.ref (adz z (b + 1)), .int 0]) := (hlo4 _ (by omega)).trans hob
  have ha1 : V4 (b + 1) = .inl (t.2.2.2, 4, .inr (.inr (.inr (.inr (fun _ => none))))) := (hlo4 _ (by omega)).trans ha1
  have hlow : ∀ k, k < b → V4 k = V k := fun k hk => (hlo4 k (by omega)).trans (hlow k hk)
  refine W.widen (k := 58) (n := 504) (Nat.le_of_ble_eq_true rfl) (Nat.le_of_ble_eq_true rfl) ?_
  refine r_qstZ X hP hS (k := b + 1) (k2 := b + 2) (by omega) ha1 (by omega) hf4_0.ob (j := 0) (by decide) (by decide) dX2_init_31 (fun V5 H5 locs5 hnq h2 hP hz2 hS => ?_)
  have hz := hz2.trans hz
  have hP : HP dd (b + 59) (adz z) V5 H5 := hP
  have hz : H5.size = z + (b + 59) := hz
  have ha1 : V5 (b + 1) = .inl (t.2.2.2, 4, .inr (.inr (.inr (.inr (va_up (fun _ => none) 0 (some (adz z (b + 2)))))))) := hnq
  have hob : V5 b = .inr (2, [.ref (adz z (b + 1)), .int 0]) := (h2 _ (by omega)).trans hob
  have hf4_0 := hf4_0.keep (V1 := V5) (fun k h8 h9 => h2 k (by omega))
  have hf4_1 := hf4_1.keep (V1 := V5) (fun k h8 h9 => h2 k (by omega))
  have hf4_2 := hf4_2.keep (V1 := V5) (fun k h8 h9 => h2 k (by omega))
  have hlow : ∀ k, k < b → V5 k = V k := fun k hk => (h2 k (by omega)).trans (hlow k hk)
  refine lv_iinc (v := nI 1) (lv' := [(1, .int (nI 1)), (0, .ref (adz z (b)))]) hx hb dX2_init_32 hl (k := 0) rfl (nI_inc _) (by decide) rfl (fun ls hl => ?_)
  refine lv_goto (tgt := 14) hx hb dX2_init_35 (by decide) ?_
  refine lv_iload_n hx hb dX2_init_14 rfl (lv_at hl 0 rfl) ?_
  refine lv_iconst (v := nI 4) hx hb dX2_init_15 (by decide) ?_
  refine q_ge (x := 1) (y := 4) (tgt := 38) hx hb (by omega) (by omega) dX2_init_16 (by decide) (fun h => absurd h (by omega)) (fun _ => ?_)
  refine lv_aload_n hx hb dX2_init_19 rfl (lv_at hl 1 rfl) ?_
  refine r_get X hP (ci := 2) (k := b) rfl inlX2 (by omega) hob 0 (by decide) m69 rfl dX2_init_20 ?_
  refine lv_iload_n hx hb dX2_init_23 rfl (lv_at hl 0 rfl) ?_
  refine c_new (ci := 4) (fs := [.null, .null, .int 0, .int 0]) X hP hz hS rfl inlX4 tyX4 tyX4_ok m68 m13 m14 (fun j hj => by rcases (show j = 0 ∨ j = 1 ∨ j = 2 ∨ j = 3 by omega) with rfl | rfl | rfl | rfl <;> rfl) (Nat.le_of_ble_eq_true rfl) (Nat.le_of_ble_eq_true rfl) dX2_init_24 (fun V6 H6 hnw h2 hP hz hS => ?_)
  have hP : HP dd (b + 60) (adz z) V6 H6 := hP
  have hz : H6.size = z + (b + 60) := hz
  have hnw : V6 (b + 59) = .inr (4, [.null, .null, .int 0, .int 0]) := hnw
  have hob : V6 b = .inr (2, [.ref (adz z (b + 1)), .int 0]) := (h2 _ (by omega)).trans hob
  have ha1 : V6 (b + 1) = .inl (t.2.2.2, 4, .inr (.inr (.inr (.inr (va_up (fun _ => none) 0 (some (adz z (b + 2)))))))) := (h2 _ (by omega)).trans ha1
  have hf4_0 := hf4_0.keep (V1 := V6) (fun k h8 h9 => h2 k (by omega))
  have hf4_1 := hf4_1.keep (V1 := V6) (fun k h8 h9 => h2 k (by omega))
  have hf4_2 := hf4_2.keep (V1 := V6) (fun k h8 h9 => h2 k (by omega))
  have hlow : ∀ k, k < b → V6 k = V k := fun k hk => (h2 k (by omega)).trans (hlow k hk)
  refine W.widen (k := 59) (n := 508) (Nat.le_of_ble_eq_true rfl) (Nat.le_of_ble_eq_true rfl) ?_
  refine lv_dup hx hb dX2_init_27 rfl ?_
  refine r_callI (b := b + 59) (rest := [.ref (adz z (b + 59)), .int (nI 1), .ref (adz z (b + 1))]) (w := 56) (sl := 496) X hC hz hP hS (c_X4_init hnw) m31 m14 m30 m71 ⟨by decide +kernel, by decide +kernel, by decide +kernel⟩ (by decide +kernel) ⟨rfl, rfl⟩ ⟨Nat.le_of_ble_eq_true rfl, Nat.le_of_ble_eq_true rfl⟩ hl.1 (Nat.le_of_ble_eq_true rfl) ⟨Nat.le_of_ble_eq_true rfl, Nat.le_of_ble_eq_true rfl⟩ dX2_init_28 (fun V7 H7 locs7 hq hP hz hS => ?_)
  obtain ⟨hf7_0, hf7_1, hf7_2, hlo7⟩ := hq
  have hP : HP dd (b + 116) (adz z) V7 H7 := hP
  have hz : H7.size = z + (b + 116) := hz
  have hob : V7 b = .inr (2, [.ref (adz z (b + 1)), .int 0]) := (hlo7 _ (by omega)).trans hob
  have ha1 : V7 (b + 1) = .inl (t.2.2.2, 4, .inr (.inr (.inr (.inr (va_up (fun _ => none) 0 (some (adz z (b + 2)))))))) := (hlo7 _ (by omega)).trans ha1
  have hf4_0 := hf4_0.keep (V1 := V7) (fun k h8 h9 => hlo7 k (by omega))
  have hf4_1 := hf4_1.keep (V1 := V7) (fun k h8 h9 => hlo7 k (by omega))
  have hf4_2 := hf4_2.keep (V1 := V7) (fun k h8 h9 => hlo7 k (by omega))
  have hlow : ∀ k, k < b → V7 k = V k := fun k hk => (hlo7 k (by omega)).trans (hlow k hk)
  refine W.widen (k := 115) (n := 1004) (Nat.le_of_ble_eq_true rfl) (Nat.le_of_ble_eq_true rfl) ?_
  refine r_qstZ X hP hS (k := b + 1) (k2 := b + 59) (by omega) ha1 (by omega) hf7_0.ob (j := 1) (by decide) (by decide) dX2_init_31 (fun V8 H8 locs8 hnq h2 hP hz2 hS => ?_)
  have hz := hz2.trans hz
  have hP : HP dd (b + 116) (adz z) V8 H8 := hP
  have hz : H8.size = z + (b + 116) := hz
  have ha1 : V8 (b + 1) = .inl (t.2.2.2, 4, .inr (.inr (.inr (.inr (va_up (va_up (fun _ => none) 0 (some (adz z (b + 2)))) 1 (some (adz z (b + 59)))))))) := hnq
  have hob : V8 b = .inr (2, [.ref (adz z (b + 1)), .int 0]) := (h2 _ (by omega)).trans hob
  have hf4_0 := hf4_0.keep (V1 := V8) (fun k h8 h9 => h2 k (by omega))
  have hf4_1 := hf4_1.keep (V1 := V8) (fun k h8 h9 => h2 k (by omega))
  have hf4_2 := hf4_2.keep (V1 := V8) (fun k h8 h9 => h2 k (by omega))
  have hf7_0 := hf7_0.keep (V1 := V8) (fun k h8 h9 => h2 k (by omega))
  have hf7_1 := hf7_1.keep (V1 := V8) (fun k h8 h9 => h2 k (by omega))
  have hf7_2 := hf7_2.keep (V1 := V8) (fun k h8 h9 => h2 k (by omega))
  have hlow : ∀ k, k < b → V8 k = V k := fun k hk => (h2 k (by omega)).trans (hlow k hk)
  refine lv_iinc (v := nI 2) (lv' := [(1, .int (nI 2)), (0, .ref (adz z (b)))]) hx hb dX2_init_32 hl (k := 0) rfl (nI_inc _) (by decide) rfl (fun ls hl => ?_)
  refine lv_goto (tgt := 14) hx hb dX2_init_35 (by decide) ?_
  refine lv_iload_n hx hb dX2_init_14 rfl (lv_at hl 0 rfl) ?_
  refine lv_iconst (v := nI 4) hx hb dX2_init_15 (by decide) ?_
  refine q_ge (x := 2) (y := 4) (tgt := 38) hx hb (by omega) (by omega) dX2_init_16 (by decide) (fun h => absurd h (by omega)) (fun _ => ?_)
  refine lv_aload_n hx hb dX2_init_19 rfl (lv_at hl 1 rfl) ?_
  refine r_get X hP (ci := 2) (k := b) rfl inlX2 (by omega) hob 0 (by decide) m69 rfl dX2_init_20 ?_
  refine lv_iload_n hx hb dX2_init_23 rfl (lv_at hl 0 rfl) ?_
  refine c_new (ci := 4) (fs := [.null, .null, .int 0, .int 0]) X hP hz hS rfl inlX4 tyX4 tyX4_ok m68 m13 m14 (fun j hj => by rcases (show j = 0 ∨ j = 1 ∨ j = 2 ∨ j = 3 by omega) with rfl | rfl | rfl | rfl <;> rfl) (Nat.le_of_ble_eq_true rfl) (Nat.le_of_ble_eq_true rfl) dX2_init_24 (fun V9 H9 hnw h2 hP hz hS => ?_)
  have hP : HP dd (b + 117) (adz z) V9 H9 := hP
  have hz : H9.size = z + (b + 117) := hz
  have hnw : V9 (b + 116) = .inr (4, [.null, .null, .int 0, .int 0]) := hnw
  have hob : V9 b = .inr (2, [.ref (adz z (b + 1)), .int 0]) := (h2 _ (by omega)).trans hob
  have ha1 : V9 (b + 1) = .inl (t.2.2.2, 4, .inr (.inr (.inr (.inr (va_up (va_up (fun _ => none) 0 (some (adz z (b + 2)))) 1 (some (adz z (b + 59)))))))) := (h2 _ (by omega)).trans ha1
  have hf4_0 := hf4_0.keep (V1 := V9) (fun k h8 h9 => h2 k (by omega))
  have hf4_1 := hf4_1.keep (V1 := V9) (fun k h8 h9 => h2 k (by omega))
  have hf4_2 := hf4_2.keep (V1 := V9) (fun k h8 h9 => h2 k (by omega))
  have hf7_0 := hf7_0.keep (V1 := V9) (fun k h8 h9 => h2 k (by omega))
  have hf7_1 := hf7_1.keep (V1 := V9) (fun k h8 h9 => h2 k (by omega))
  have hf7_2 := hf7_2.keep (V1 := V9) (fun k h8 h9 => h2 k (by omega))
  have hlow : ∀ k, k < b → V9 k = V k := fun k hk => (h2 k (by omega)).trans (hlow k hk)
  refine W.widen (k := 116) (n := 1008) (Nat.le_of_ble_eq_true rfl) (Nat.le_of_ble_eq_true rfl) ?_
  refine lv_dup hx hb dX2_init_27 rfl ?_
  refine r_callI (b := b + 116) (rest := [.ref (adz z (b + 116)), .int (nI 2), .ref (adz z (b + 1))]) (w := 56) (sl := 496) X hC hz hP hS (c_X4_init hnw) m31 m14 m30 m71 ⟨by decide +kernel, by decide +kernel, by decide +kernel⟩ (by decide +kernel) ⟨rfl, rfl⟩ ⟨Nat.le_of_ble_eq_true rfl, Nat.le_of_ble_eq_true rfl⟩ hl.1 (Nat.le_of_ble_eq_true rfl) ⟨Nat.le_of_ble_eq_true rfl, Nat.le_of_ble_eq_true rfl⟩ dX2_init_28 (fun V10 H10 locs10 hq hP hz hS => ?_)
  obtain ⟨hf10_0, hf10_1, hf10_2, hlo10⟩ := hq
  have hP : HP dd (b + 173) (adz z) V10 H10 := hP
  have hz : H10.size = z + (b + 173) := hz
  have hob : V10 b = .inr (2, [.ref (adz z (b + 1)), .int 0]) := (hlo10 _ (by omega)).trans hob
  have ha1 : V10 (b + 1) = .inl (t.2.2.2, 4, .inr (.inr (.inr (.inr (va_up (va_up (fun _ => none) 0 (some (adz z (b + 2)))) 1 (some (adz z (b + 59)))))))) := (hlo10 _ (by omega)).trans ha1
  have hf4_0 := hf4_0.keep (V1 := V10) (fun k h8 h9 => hlo10 k (by omega))
  have hf4_1 := hf4_1.keep (V1 := V10) (fun k h8 h9 => hlo10 k (by omega))
  have hf4_2 := hf4_2.keep (V1 := V10) (fun k h8 h9 => hlo10 k (by omega))
  have hf7_0 := hf7_0.keep (V1 := V10) (fun k h8 h9 => hlo10 k (by omega))
  have hf7_1 := hf7_1.keep (V1 := V10) (fun k h8 h9 => hlo10 k (by omega))
  have hf7_2 := hf7_2.keep (V1 := V10) (fun k h8 h9 => hlo10 k (by omega))
  have hlow : ∀ k, k < b → V10 k = V k := fun k hk => (hlo10 k (by omega)).trans (hlow k hk)
  refine W.widen (k := 172) (n := 1504) (Nat.le_of_ble_eq_true rfl) (Nat.le_of_ble_eq_true rfl) ?_
  refine r_qstZ X hP hS (k := b + 1) (k2 := b + 116) (by omega) ha1 (by omega) hf10_0.ob (j := 2) (by decide) (by decide) dX2_init_31 (fun V11 H11 locs11 hnq h2 hP hz2 hS => ?_)
  have hz := hz2.trans hz
  have hP : HP dd (b + 173) (adz z) V11 H11 := hP
  have hz : H11.size = z + (b + 173) := hz
  have ha1 : V11 (b + 1) = .inl (t.2.2.2, 4, .inr (.inr (.inr (.inr (va_up (va_up (va_up (fun _ => none) 0 (some (adz z (b + 2)))) 1 (some (adz z (b + 59)))) 2 (some (adz z (b + 116)))))))) := hnq
  have hob : V11 b = .inr (2, [.ref (adz z (b + 1)), .int 0]) := (h2 _ (by omega)).trans hob
  have hf4_0 := hf4_0.keep (V1 := V11) (fun k h8 h9 => h2 k (by omega))
  have hf4_1 := hf4_1.keep (V1 := V11) (fun k h8 h9 => h2 k (by omega))
  have hf4_2 := hf4_2.keep (V1 := V11) (fun k h8 h9 => h2 k (by omega))
  have hf7_0 := hf7_0.keep (V1 := V11) (fun k h8 h9 => h2 k (by omega))
  have hf7_1 := hf7_1.keep (V1 := V11) (fun k h8 h9 => h2 k (by omega))
  have hf7_2 := hf7_2.keep (V1 := V11) (fun k h8 h9 => h2 k (by omega))
  have hf10_0 := hf10_0.keep (V1 := V11) (fun k h8 h9 => h2 k (by omega))
  have hf10_1 := hf10_1.keep (V1 := V11) (fun k h8 h9 => h2 k (by omega))
  have hf10_2 := hf10_2.keep (V1 := V11) (fun k h8 h9 => h2 k (by omega))
  have hlow : ∀ k, k < b → V11 k = V k := fun k hk => (h2 k (by omega)).trans (hlow k hk)
  refine lv_iinc (v := nI 3) (lv' := [(1, .int (nI 3)), (0, .ref (adz z (b)))]) hx hb dX2_init_32 hl (k := 0) rfl (nI_inc _) (by decide) rfl (fun ls hl => ?_)
  refine lv_goto (tgt := 14) hx hb dX2_init_35 (by decide) ?_
  refine lv_iload_n hx hb dX2_init_14 rfl (lv_at hl 0 rfl) ?_
  refine lv_iconst (v := nI 4) hx hb dX2_init_15 (by decide) ?_
  refine q_ge (x := 3) (y := 4) (tgt := 38) hx hb (by omega) (by omega) dX2_init_16 (by decide) (fun h => absurd h (by omega)) (fun _ => ?_)
  refine lv_aload_n hx hb dX2_init_19 rfl (lv_at hl 1 rfl) ?_
  refine r_get X hP (ci := 2) (k := b) rfl inlX2 (by omega) hob 0 (by decide) m69 rfl dX2_init_20 ?_
  refine lv_iload_n hx hb dX2_init_23 rfl (lv_at hl 0 rfl) ?_
  refine c_new (ci := 4) (fs := [.null, .null, .int 0, .int 0]) X hP hz hS rfl inlX4 tyX4 tyX4_ok m68 m13 m14 (fun j hj => by rcases (show j = 0 ∨ j = 1 ∨ j = 2 ∨ j = 3 by omega) with rfl | rfl | rfl | rfl <;> rfl) (Nat.le_of_ble_eq_true rfl) (Nat.le_of_ble_eq_true rfl) dX2_init_24 (fun V12 H12 hnw h2 hP hz hS => ?_)
  have hP : HP dd (b + 174) (adz z) V12 H12 := hP
  have hz : H12.size = z + (b + 174) := hz
  have hnw : V12 (b + 173) = .inr (4, [.null, .null, .int 0, .int 0]) := hnw
  have hob : V12 b = .inr (2, [.ref (adz z (b + 1)), .int 0]) := (h2 _ (by omega)).trans hob
  have ha1 : V12 (b + 1) = .inl (t.2.2.2, 4, .inr (.inr (.inr (.inr (va_up (va_up (va_up (fun _ => none) 0 (some (adz z (b + 2)))) 1 (some (adz z (b + 59)))) 2 (some (adz z (b + 116)))))))) := (h2 _ (by omega)).trans ha1
  have hf4_0 := hf4_0.keep (V1 := V12) (fun k h8 h9 => h2 k (by omega))
  have hf4_1 := hf4_1.keep (V1 := V12) (fun k h8 h9 => h2 k (by omega))
  have hf4_2 := hf4_2.keep (V1 := V12) (fun k h8 h9 => h2 k (by omega))
  have hf7_0 := hf7_0.keep (V1 := V12) (fun k h8 h9 => h2 k (by omega))
  have hf7_1 := hf7_1.keep (V1 := V12) (fun k h8 h9 => h2 k (by omega))
  have hf7_2 := hf7_2.keep (V1 := V12) (fun k h8 h9 => h2 k (by omega))
  have hf10_0 := hf10_0.keep (V1 := V12) (fun k h8 h9 => h2 k (by omega))
  have hf10_1 := hf10_1.keep (V1 := V12) (fun k h8 h9 => h2 k (by omega))
  have hf10_2 := hf10_2.keep (V1 := V12) (fun k h8 h9 => h2 k (by omega))
  have hlow : ∀ k, k < b → V12 k = V k := fun k hk => (h2 k (by omega)).trans (hlow k hk)
  refine W.widen (k := 173) (n := 1508) (Nat.le_of_ble_eq_true rfl) (Nat.le_of_ble_eq_true rfl) ?_
  refine lv_dup hx hb dX2_init_27 rfl ?_
  refine r_callI (b := b + 173) (rest := [.ref (adz z (b + 173)), .int (nI 3), .ref (adz z (b + 1))]) (w := 56) (sl := 496) X hC hz hP hS (c_X4_init hnw) m31 m14 m30 m71 ⟨by decide +kernel, by decide +kernel, by decide +kernel⟩ (by decide +kernel) ⟨rfl, rfl⟩ ⟨Nat.le_of_ble_eq_true rfl, Nat.le_of_ble_eq_true rfl⟩ hl.1 (Nat.le_of_ble_eq_true rfl) ⟨Nat.le_of_ble_eq_true rfl, Nat.le_of_ble_eq_true rfl⟩ dX2_init_28 (fun V13 H13 locs13 hq hP hz hS => ?_)
  obtain ⟨hf13_0, hf13_1, hf13_2, hlo13⟩ := hq
  have hP : HP dd (b + 230) (adz z) V13 H13 := hP
  have hz : H13.size = z + (b + 230) := hz
  have hob : V13 b = .inr (2, [.ref (adz z (b + 1)), .int 0]) := (hlo13 _ (by omega)).trans hob
  have ha1 : V13 (b + 1) = .inl (t.2.2.2, 4, .inr (.inr (.inr (.inr (va_up (va_up (va_up (fun _ => none) 0 (some (adz z (b + 2)))) 1 (some (adz z (b + 59)))) 2 (some (adz z (b + 116)))))))) := (hlo13 _ (by omega)).trans ha1
  have hf4_0 := hf4_0.keep (V1 := V13) (fun k h8 h9 => hlo13 k (by omega))
  have hf4_1 := hf4_1.keep (V1 := V13) (fun k h8 h9 => hlo13 k (by omega))
  have hf4_2 := hf4_2.keep (V1 := V13) (fun k h8 h9 => hlo13 k (by omega))
  have hf7_0 := hf7_0.keep (V1 := V13) (fun k h8 h9 => hlo13 k (by omega))
  have hf7_1 := hf7_1.keep (V1 := V13) (fun k h8 h9 => hlo13 k (by omega))
  have hf7_2 := hf7_2.keep (V1 := V13) (fun k h8 h9 => hlo13 k (by omega))
  have hf10_0 := hf10_0.keep (V1 := V13) (fun k h8 h9 => hlo13 k (by omega))
  have hf10_1 := hf10_1.keep (V1 := V13) (fun k h8 h9 => hlo13 k (by omega))
  have hf10_2 := hf10_2.keep (V1 := V13) (fun k h8 h9 => hlo13 k (by omega))
  have hlow : ∀ k, k < b → V13 k = V k := fun k hk => (hlo13 k (by omega)).trans (hlow k hk)
  refine W.widen (k := 229) (n := 2004) (Nat.le_of_ble_eq_true rfl) (Nat.le_of_ble_eq_true rfl) ?_
  refine r_qstZ X hP hS (k := b + 1) (k2 := b + 173) (by omega) ha1 (by omega) hf13_0.ob (j := 3) (by decide) (by decide) dX2_init_31 (fun V14 H14 locs14 hnq h2 hP hz2 hS => ?_)
  have hz := hz2.trans hz
  have hP : HP dd (b + 230) (adz z) V14 H14 := hP
  have hz : H14.size = z + (b + 230) := hz
  have ha1 : V14 (b + 1) = .inl (t.2.2.2, 4, .inr (.inr (.inr (.inr (va_up (va_up (va_up (va_up (fun _ => none) 0 (some (adz z (b + 2)))) 1 (some (adz z (b + 59)))) 2 (some (adz z (b + 116)))) 3 (some (adz z (b + 173)))))))) := hnq
  have hob : V14 b = .inr (2, [.ref (adz z (b + 1)), .int 0]) := (h2 _ (by omega)).trans hob
  have hf4_0 := hf4_0.keep (V1 := V14) (fun k h8 h9 => h2 k (by omega))
  have hf4_1 := hf4_1.keep (V1 := V14) (fun k h8 h9 => h2 k (by omega))
  have hf4_2 := hf4_2.keep (V1 := V14) (fun k h8 h9 => h2 k (by omega))
  have hf7_0 := hf7_0.keep (V1 := V14) (fun k h8 h9 => h2 k (by omega))
  have hf7_1 := hf7_1.keep (V1 := V14) (fun k h8 h9 => h2 k (by omega))
  have hf7_2 := hf7_2.keep (V1 := V14) (fun k h8 h9 => h2 k (by omega))
  have hf10_0 := hf10_0.keep (V1 := V14) (fun k h8 h9 => h2 k (by omega))
  have hf10_1 := hf10_1.keep (V1 := V14) (fun k h8 h9 => h2 k (by omega))
  have hf10_2 := hf10_2.keep (V1 := V14) (fun k h8 h9 => h2 k (by omega))
  have hf13_0 := hf13_0.keep (V1 := V14) (fun k h8 h9 => h2 k (by omega))
  have hf13_1 := hf13_1.keep (V1 := V14) (fun k h8 h9 => h2 k (by omega))
  have hf13_2 := hf13_2.keep (V1 := V14) (fun k h8 h9 => h2 k (by omega))
  have hlow : ∀ k, k < b → V14 k = V k := fun k hk => (h2 k (by omega)).trans (hlow k hk)
  refine lv_iinc (v := nI 4) (lv' := [(1, .int (nI 4)), (0, .ref (adz z (b)))]) hx hb dX2_init_32 hl (k := 0) rfl (nI_inc _) (by decide) rfl (fun ls hl => ?_)
  refine lv_goto (tgt := 14) hx hb dX2_init_35 (by decide) ?_
  refine lv_iload_n hx hb dX2_init_14 rfl (lv_at hl 0 rfl) ?_
  refine lv_iconst (v := nI 4) hx hb dX2_init_15 (by decide) ?_
  refine q_ge (x := 4) (y := 4) (tgt := 38) hx hb (by omega) (by omega) dX2_init_16 (by decide) (fun _ => ?_) (fun h => absurd h (by omega))
  refine lv_aload_n hx hb dX2_init_38 rfl (lv_at hl 1 rfl) ?_
  refine lv_iconst (v := nI 0) hx hb dX2_init_39 (by decide) ?_
  refine r_putZ (ci := 2) (k := b) (ty := .int) X hP hS rfl inlX2 tyX2 tyX2_ok nmX2 (by omega) hob 1 (by decide) m70 rfl (by decide +kernel) rfl rfl (Nat.le_of_ble_eq_true rfl) rfl dX2_init_40 (fun V15 H15 locs15 hnb h2 hP hz2 hS => ?_)
  have hz := hz2.trans hz
  have hP : HP dd (b + 230) (adz z) V15 H15 := hP
  have hz : H15.size = z + (b + 230) := hz
  have hob : V15 b = .inr (2, [.ref (adz z (b + 1)), .int (nI 0)]) := hnb
  have ha1 : V15 (b + 1) = .inl (t.2.2.2, 4, .inr (.inr (.inr (.inr (va_up (va_up (va_up (va_up (fun _ => none) 0 (some (adz z (b + 2)))) 1 (some (adz z (b + 59)))) 2 (some (adz z (b + 116)))) 3 (some (adz z (b + 173)))))))) := (h2 _ (by omega)).trans ha1
  have hf4_0 := hf4_0.keep (V1 := V15) (fun k h8 h9 => h2 k (by omega))
  have hf4_1 := hf4_1.keep (V1 := V15) (fun k h8 h9 => h2 k (by omega))
  have hf4_2 := hf4_2.keep (V1 := V15) (fun k h8 h9 => h2 k (by omega))
  have hf7_0 := hf7_0.keep (V1 := V15) (fun k h8 h9 => h2 k (by omega))
  have hf7_1 := hf7_1.keep (V1 := V15) (fun k h8 h9 => h2 k (by omega))
  have hf7_2 := hf7_2.keep (V1 := V15) (fun k h8 h9 => h2 k (by omega))
  have hf10_0 := hf10_0.keep (V1 := V15) (fun k h8 h9 => h2 k (by omega))
  have hf10_1 := hf10_1.keep (V1 := V15) (fun k h8 h9 => h2 k (by omega))
  have hf10_2 := hf10_2.keep (V1 := V15) (fun k h8 h9 => h2 k (by omega))
  have hf13_0 := hf13_0.keep (V1 := V15) (fun k h8 h9 => h2 k (by omega))
  have hf13_1 := hf13_1.keep (V1 := V15) (fun k h8 h9 => h2 k (by omega))
  have hf13_2 := hf13_2.keep (V1 := V15) (fun k h8 h9 => h2 k (by omega))
  have hlow : ∀ k, k < b → V15 k = V k := fun k hk => (h2 k (by omega)).trans (hlow k hk)
  exact kr 43 ls _ _ _ hP hz hS ⟨⟨by omega, hob, Nat.zero_le _⟩, ⟨by omega, _, ha1, fun j hj => by rcases (show j = 0 ∨ j = 1 ∨ j = 2 ∨ j = 3 by omega) with rfl | rfl | rfl | rfl <;> rfl⟩, ⟨by omega, fun i hi => by
      rcases (show i = 0 ∨ i = 1 ∨ i = 2 ∨ i = 3 by omega) with rfl | rfl | rfl | rfl
      · exact ⟨hf4_0.grow (by omega), hf4_1.grow (by omega), hf4_2.grow (by omega)⟩
      · exact ⟨hf7_0.grow (by omega), hf7_1.grow (by omega), hf7_2.grow (by omega)⟩
      · exact ⟨hf10_0.grow (by omega), hf10_1.grow (by omega), hf10_2.grow (by omega)⟩
      · exact ⟨hf13_0.grow (by omega), hf13_1.grow (by omega), hf13_2.grow (by omega)⟩⟩, hlow⟩ dX2_init_43
def rmX5_init : Room := { frames := 4, cells := 404, slots := 3576, locals := 73 }
set_option maxHeartbeats 4000000 in
set_option maxRecDepth 100000 in
theorem c_X5_init {l : Launch} {dd : va_G} {t : CL4} {z b : Nat} {V : Nat → va_E} (hob : V b = .inr (5, [.null, .null, .null, .int 0, .null, .null, .null])) : MI l dd t z b V yX5_init cX5_init 1 rmX5_init 404 3576 (fun V1 => (ZoP (b + 405) (adz z) V1 t b (mkZ (nI 0))) ∧ ((SoP (b + 405) (adz z) V1 t (b + 1) so0) ∧ (PlP (b + 405) (adz z) V1 t (b + 2) pl0) ∧ (CuP (b + 405) (adz z) V1 t (b + 14) cu0)) ∧ ((SoP (b + 405) (adz z) V1 t (b + 58) so0) ∧ (PlP (b + 405) (adz z) V1 t (b + 59) pl0) ∧ (CuP (b + 405) (adz z) V1 t (b + 71) cu0)) ∧ ((SoP (b + 405) (adz z) V1 t (b + 115) so0) ∧ (PlP (b + 405) (adz z) V1 t (b + 116) pl0) ∧ (CuP (b + 405) (adz z) V1 t (b + 128) cu0)) ∧ ((HoP (b + 405) (adz z) V1 t (b + 172) (mkH 0)) ∧ (HaP (b + 405) (adz z) V1 t (b + 173) (fun j => j)) ∧ (HsP (b + 405) (adz z) V1 t (b + 174) (fun _ => st0))) ∧ (TxP (b + 405) (adz z) V1 t (b + 402) (mkX (fun _ => 0) 0)) ∧ (NuP (b + 405) V1 t (b + 404) (fun _ => 0)) ∧ ∀ k, k < b → V1 k = V k) := by
  refine MI.of (by decide +kernel) (by decide +kernel) (Nat.le_of_ble_eq_true rfl) ?_
  intro p e s m as below meth c Q X hC hm H hz hP hS ls hl kr
  have X : WX p s m as c cX5_init 1 RX5 dd t := X
  have hx := X.1.1
  have hb := X.1.2.1
  have hlow : ∀ k, k < b → V k = V k := fun _ _ => rfl
  have hz0 := hz
  refine lv_aload_n hx hb dX5_init_0 rfl (lv_at hl 0 rfl) ?_
  refine W.objInit hx hb X.1.2.2.2.1 (X.1.2.2.2.2 _ m9) (X.1.2.2.2.2 _ m10) (X.1.2.2.2.2 _ m11) rfl (by rw [X.1.2.2.1]; exact hl.1) rfl dX5_init_1 (Nat.le_of_ble_eq_true rfl) (Nat.le_of_ble_eq_true rfl) ?_
  refine W.eq (g2 := F0 m 4 ls []) rfl ?_
  refine lv_aload_n hx hb dX5_init_4 rfl (lv_at hl 0 rfl) ?_
  refine c_new (ci := 4) (fs := [.null, .null, .int 0, .int 0]) X hP hz hS rfl inlX4 tyX4 tyX4_ok m12 m13 m14 (fun j hj => by rcases (show j = 0 ∨ j = 1 ∨ j = 2 ∨ j = 3 by omega) with rfl | rfl | rfl | rfl <;> rfl) (Nat.le_of_ble_eq_true rfl) (Nat.le_of_ble_eq_true rfl) dX5_init_5 (fun V1 H1 hnw h2 hP hz hS => ?_)
  have hP : HP dd (b + 2) (adz z) V1 H1 := hP
  have hz : H1.size = z + (b + 2) := hz
  have hnw : V1 (b + 1) = .inr (4, [.null, .null, .int 0, .int 0]) := hnw
  have hob : V1 b = .inr (5, [.null, .null, .null, .int 0, .null, .null, .null]) := (h2 _ (by omega)).trans hob
  have hlow : ∀ k, k < b → V1 k = V k := fun k hk => (h2 k (by omega)).trans (hlow k hk)
  refine W.widen (k := 1) (n := 4) (Nat.le_of_ble_eq_true rfl) (Nat.le_of_ble_eq_true rfl) ?_
  refine lv_dup hx hb dX5_init_8 rfl ?_
  refine r_callI (b := b + 1) (rest := [.ref (adz z (b + 1)), .ref (adz z (b))]) (w := 56) (sl := 496) X hC hz hP hS (c_X4_init hnw) m31 m14 m30 m29 ⟨by decide +kernel, by decide +kernel, by decide +kernel⟩ (by decide +kernel) ⟨rfl, rfl⟩ ⟨Nat.le_of_ble_eq_true rfl, Nat.le_of_ble_eq_true rfl⟩ hl.1 (Nat.le_of_ble_eq_true rfl) ⟨Nat.le_of_ble_eq_true rfl, Nat.le_of_ble_eq_true rfl⟩ dX5_init_9 (fun V2 H2 locs2 hq hP hz hS => ?_)
  obtain ⟨hf2_0, hf2_1, hf2_2, hlo2⟩ := hq
  have hP : HP dd (b + 58) (adz z) V2 H2 := hP
  have hz : H2.size = z + (b + 58) := hz
  have hob : V2 b = .inr (5, [.null, .null, .null, .int 0, .null, .null, .null]) := (hlo2 _ (by omega)).trans hob
  have hlow : ∀ k, k < b → V2 k = V k := fun k hk => (hlo2 k (by omega)).trans (hlow k hk)
  refine W.widen (k := 57) (n := 500) (Nat.le_of_ble_eq_true rfl) (Nat.le_of_ble_eq_true rfl) ?_
  refine r_putF (ci := 5) (k := b) (ty := (.object "SiteCuts$State")) X hP hS rfl inlX5 tyX5 tyX5_ok nmX5 (by omega) hob 0 (by decide) m15 rfl hm rfl (by decide +kernel) rfl rfl (Nat.le_of_ble_eq_true rfl) rfl dX5_init_12 (fun V3 H3 locs3 hnb h2 hP hz2 hS => ?_)
  have hz := hz2.trans hz
  have hP : HP dd (b + 58) (adz z) V3 H3 := hP
  have hz : H3.size = z + (b + 58) := hz
  have hob : V3 b = .inr (5, [.ref (adz z (b + 1)), .null, .null, .int 0, .null, .null, .null]) := hnb
  have hf2_0 := hf2_0.keep (V1 := V3) (fun k h8 h9 => h2 k (by omega))
  have hf2_1 := hf2_1.keep (V1 := V3) (fun k h8 h9 => h2 k (by omega))
  have hf2_2 := hf2_2.keep (V1 := V3) (fun k h8 h9 => h2 k (by omega))
  have hlow : ∀ k, k < b → V3 k = V k := fun k hk => (h2 k (by omega)).trans (hlow k hk)
  refine lv_aload_n hx hb dX5_init_15 rfl (lv_at hl 0 rfl) ?_
  refine c_new (ci := 4) (fs := [.null, .null, .int 0, .int 0]) X hP hz hS rfl inlX4 tyX4 tyX4_ok m12 m13 m14 (fun j hj => by rcases (show j = 0 ∨ j = 1 ∨ j = 2 ∨ j = 3 by omega) with rfl | rfl | rfl | rfl <;> rfl) (Nat.le_of_ble_eq_true rfl) (Nat.le_of_ble_eq_true rfl) dX5_init_16 (fun V4 H4 hnw h2 hP hz hS => ?_)
  have hP : HP dd (b + 59) (adz z) V4 H4 := hP
  have hz : H4.size = z + (b + 59) := hz
  have hnw : V4 (b + 58) = .inr (4, [.null, .null, .int 0, .int 0]) := hnw
  have hob : V4 b = .inr (5, [.ref (adz z (b + 1)), .null, .null, .int 0, .null, .null, .null]) := (h2 _ (by omega)).trans hob
  have hf2_0 := hf2_0.keep (V1 := V4) (fun k h8 h9 => h2 k (by omega))
  have hf2_1 := hf2_1.keep (V1 := V4) (fun k h8 h9 => h2 k (by omega))
  have hf2_2 := hf2_2.keep (V1 := V4) (fun k h8 h9 => h2 k (by omega))
  have hlow : ∀ k, k < b → V4 k = V k := fun k hk => (h2 k (by omega)).trans (hlow k hk)
  refine W.widen (k := 58) (n := 504) (Nat.le_of_ble_eq_true rfl) (Nat.le_of_ble_eq_true rfl) ?_
  refine lv_dup hx hb dX5_init_19 rfl ?_
  refine r_callI (b := b + 58) (rest := [.ref (adz z (b + 58)), .ref (adz z (b))]) (w := 56) (sl := 496) X hC hz hP hS (c_X4_init hnw) m31 m14 m30 m29 ⟨by decide +kernel, by decide +kernel, by decide +kernel⟩ (by decide +kernel) ⟨rfl, rfl⟩ ⟨Nat.le_of_ble_eq_true rfl, Nat.le_of_ble_eq_true rfl⟩ hl.1 (Nat.le_of_ble_eq_true rfl) ⟨Nat.le_of_ble_eq_true rfl, Nat.le_of_ble_eq_true rfl⟩ dX5_init_20 (fun V5 H5 locs5 hq hP hz hS => ?_)
  obtain ⟨hf5_0, hf5_1, hf5_2, hlo5⟩ := hq
  have hP : HP dd (b + 115) (adz z) V5 H5 := hP
  have hz : H5.size = z + (b + 115) := hz
  have hob : V5 b = .inr (5, [.ref (adz z (b + 1)), .null, .null, .int 0, .null, .null, .null]) := (hlo5 _ (by omega)).trans hob
  have hf2_0 := hf2_0.keep (V1 := V5) (fun k h8 h9 => hlo5 k (by omega))
  have hf2_1 := hf2_1.keep (V1 := V5) (fun k h8 h9 => hlo5 k (by omega))
  have hf2_2 := hf2_2.keep (V1 := V5) (fun k h8 h9 => hlo5 k (by omega))
  have hlow : ∀ k, k < b → V5 k = V k := fun k hk => (hlo5 k (by omega)).trans (hlow k hk)
  refine W.widen (k := 114) (n := 1000) (Nat.le_of_ble_eq_true rfl) (Nat.le_of_ble_eq_true rfl) ?_
  refine r_putF (ci := 5) (k := b) (ty := (.object "SiteCuts$State")) X hP hS rfl inlX5 tyX5 tyX5_ok nmX5 (by omega) hob 1 (by decide) m16 rfl hm rfl (by decide +kernel) rfl rfl (Nat.le_of_ble_eq_true rfl) rfl dX5_init_23 (fun V6 H6 locs6 hnb h2 hP hz2 hS => ?_)
  have hz := hz2.trans hz
  have hP : HP dd (b + 115) (adz z) V6 H6 := hP
  have hz : H6.size = z + (b + 115) := hz
  have hob : V6 b = .inr (5, [.ref (adz z (b + 1)), .ref (adz z (b + 58)), .null, .int 0, .null, .null, .null]) := hnb
  have hf2_0 := hf2_0.keep (V1 := V6) (fun k h8 h9 => h2 k (by omega))
  have hf2_1 := hf2_1.keep (V1 := V6) (fun k h8 h9 => h2 k (by omega))
  have hf2_2 := hf2_2.keep (V1 := V6) (fun k h8 h9 => h2 k (by omega))
  have hf5_0 := hf5_0.keep (V1 := V6) (fun k h8 h9 => h2 k (by omega))
  have hf5_1 := hf5_1.keep (V1 := V6) (fun k h8 h9 => h2 k (by omega))
  have hf5_2 := hf5_2.keep (V1 := V6) (fun k h8 h9 => h2 k (by omega))
  have hlow : ∀ k, k < b → V6 k = V k := fun k hk => (h2 k (by omega)).trans (hlow k hk)
  refine lv_aload_n hx hb dX5_init_26 rfl (lv_at hl 0 rfl) ?_
  refine c_new (ci := 4) (fs := [.null, .null, .int 0, .int 0]) X hP hz hS rfl inlX4 tyX4 tyX4_ok m12 m13 m14 (fun j hj => by rcases (show j = 0 ∨ j = 1 ∨ j = 2 ∨ j = 3 by omega) with rfl | rfl | rfl | rfl <;> rfl) (Nat.le_of_ble_eq_true rfl) (Nat.le_of_ble_eq_true rfl) dX5_init_27 (fun V7 H7 hnw h2 hP hz hS => ?_)
  have hP : HP dd (b + 116) (adz z) V7 H7 := hP
  have hz : H7.size = z + (b + 116) := hz
  have hnw : V7 (b + 115) = .inr (4, [.null, .null, .int 0, .int 0]) := hnw
  have hob : V7 b = .inr (5, [.ref (adz z (b + 1)), .ref (adz z (b + 58)), .null, .int 0, .null, .null, .null]) := (h2 _ (by omega)).trans hob
  have hf2_0 := hf2_0.keep (V1 := V7) (fun k h8 h9 => h2 k (by omega))
  have hf2_1 := hf2_1.keep (V1 := V7) (fun k h8 h9 => h2 k (by omega))
  have hf2_2 := hf2_2.keep (V1 := V7) (fun k h8 h9 => h2 k (by omega))
  have hf5_0 := hf5_0.keep (V1 := V7) (fun k h8 h9 => h2 k (by omega))
  have hf5_1 := hf5_1.keep (V1 := V7) (fun k h8 h9 => h2 k (by omega))
  have hf5_2 := hf5_2.keep (V1 := V7) (fun k h8 h9 => h2 k (by omega))
  have hlow : ∀ k, k < b → V7 k = V k := fun k hk => (h2 k (by omega)).trans (hlow k hk)
  refine W.widen (k := 115) (n := 1004) (Nat.le_of_ble_eq_true rfl) (Nat.le_of_ble_eq_true rfl) ?_
  refine lv_dup hx hb dX5_init_30 rfl ?_
  refine r_callI (b := b + 115) (rest := [.ref (adz z (b + 115)), .ref (adz z (b))]) (w := 56) (sl := 496) X hC hz hP hS (c_X4_init hnw) m31 m14 m30 m29 ⟨by decide +kernel, by decide +kernel, by decide +kernel⟩ (by decide +kernel) ⟨rfl, rfl⟩ ⟨Nat.le_of_ble_eq_true rfl, Nat.le_of_ble_eq_true rfl⟩ hl.1 (Nat.le_of_ble_eq_true rfl) ⟨Nat.le_of_ble_eq_true rfl, Nat.le_of_ble_eq_true rfl⟩ dX5_init_31 (fun V8 H8 locs8 hq hP hz hS => ?_)
  obtain ⟨hf8_0, hf8_1, hf8_2, hlo8⟩ := hq
  have hP : HP dd (b + 172) (adz z) V8 H8 := hP
  have hz : H8.size = z + (b + 172) := hz
  have hob : V8 b = .inr (5, [.ref (adz z (b + 1)), .ref (adz z (b + 58)), .null, .int 0, .null, .null, .null]) := (hlo8 _ (by omega)).trans hob
  have hf2_0 := hf2_0.keep (V1 := V8) (fun k h8 h9 => hlo8 k (by omega))
  have hf2_1 := hf2_1.keep (V1 := V8) (fun k h8 h9 => hlo8 k (by omega))
  have hf2_2 := hf2_2.keep (V1 := V8) (fun k h8 h9 => hlo8 k (by omega))
  have hf5_0 := hf5_0.keep (V1 := V8) (fun k h8 h9 => hlo8 k (by omega))
  have hf5_1 := hf5_1.keep (V1 := V8) (fun k h8 h9 => hlo8 k (by omega))
  have hf5_2 := hf5_2.keep (V1 := V8) (fun k h8 h9 => hlo8 k (by omega))
  have hlow : ∀ k, k < b → V8 k = V k := fun k hk => (hlo8 k (by omega)).trans (hlow k hk)
  refine W.widen (k := 171) (n := 1500) (Nat.le_of_ble_eq_true rfl) (Nat.le_of_ble_eq_true rfl) ?_
  refine r_putF (ci := 5) (k := b) (ty := (.object "SiteCuts$State")) X hP hS rfl inlX5 tyX5 tyX5_ok nmX5 (by omega) hob 2 (by decide) m17 rfl hm rfl (by decide +kernel) rfl rfl (Nat.le_of_ble_eq_true rfl) rfl dX5_init_34 (fun V9 H9 locs9 hnb h2 hP hz2 hS => ?_)
  have hz := hz2.trans hz
  have hP : HP dd (b + 172) (adz z) V9 H9 := hP
  have hz : H9.size = z + (b + 172) := hz
  have hob : V9 b = .inr (5, [.ref (adz z (b + 1)), .ref (adz z (b + 58)), .ref (adz z (b + 115)), .int 0, .null, .null, .null]) := hnb
  have hf2_0 := hf2_0.keep (V1 := V9) (fun k h8 h9 => h2 k (by omega))
  have hf2_1 := hf2_1.keep (V1 := V9) (fun k h8 h9 => h2 k (by omega))
  have hf2_2 := hf2_2.keep (V1 := V9) (fun k h8 h9 => h2 k (by omega))
  have hf5_0 := hf5_0.keep (V1 := V9) (fun k h8 h9 => h2 k (by omega))
  have hf5_1 := hf5_1.keep (V1 := V9) (fun k h8 h9 => h2 k (by omega))
  have hf5_2 := hf5_2.keep (V1 := V9) (fun k h8 h9 => h2 k (by omega))
  have hf8_0 := hf8_0.keep (V1 := V9) (fun k h8 h9 => h2 k (by omega))
  have hf8_1 := hf8_1.keep (V1 := V9) (fun k h8 h9 => h2 k (by omega))
  have hf8_2 := hf8_2.keep (V1 := V9) (fun k h8 h9 => h2 k (by omega))
  have hlow : ∀ k, k < b → V9 k = V k := fun k hk => (h2 k (by omega)).trans (hlow k hk)
  refine lv_aload_n hx hb dX5_init_37 rfl (lv_at hl 0 rfl) ?_
  refine lv_iconst (v := nI 0) hx hb dX5_init_38 (by decide) ?_
  refine r_putZ (ci := 5) (k := b) (ty := .boolean) X hP hS rfl inlX5 tyX5 tyX5_ok nmX5 (by omega) hob 3 (by decide) m18 rfl (by decide +kernel) (by decide) (by decide) (Nat.le_of_ble_eq_true rfl) rfl dX5_init_39 (fun V10 H10 locs10 hnb h2 hP hz2 hS => ?_)
  have hz := hz2.trans hz
  have hP : HP dd (b + 172) (adz z) V10 H10 := hP
  have hz : H10.size = z + (b + 172) := hz
  have hob : V10 b = .inr (5, [.ref (adz z (b + 1)), .ref (adz z (b + 58)), .ref (adz z (b + 115)), .int (nI 0), .null, .null, .null]) := hnb
  have hf2_0 := hf2_0.keep (V1 := V10) (fun k h8 h9 => h2 k (by omega))
  have hf2_1 := hf2_1.keep (V1 := V10) (fun k h8 h9 => h2 k (by omega))
  have hf2_2 := hf2_2.keep (V1 := V10) (fun k h8 h9 => h2 k (by omega))
  have hf5_0 := hf5_0.keep (V1 := V10) (fun k h8 h9 => h2 k (by omega))
  have hf5_1 := hf5_1.keep (V1 := V10) (fun k h8 h9 => h2 k (by omega))
  have hf5_2 := hf5_2.keep (V1 := V10) (fun k h8 h9 => h2 k (by omega))
  have hf8_0 := hf8_0.keep (V1 := V10) (fun k h8 h9 => h2 k (by omega))
  have hf8_1 := hf8_1.keep (V1 := V10) (fun k h8 h9 => h2 k (by omega))
  have hf8_2 := hf8_2.keep (V1 := V10) (fun k h8 h9 => h2 k (by omega))
  have hlow : ∀ k, k < b → V10 k = V k := fun k hk => (h2 k (by omega)).trans (hlow k hk)
  refine lv_aload_n hx hb dX5_init_42 rfl (lv_at hl 0 rfl) ?_
  refine c_new (ci := 2) (fs := [.null, .int 0]) X hP hz hS rfl inlX2 tyX2 tyX2_ok m19 m20 m21 (fun j hj => by rcases (show j = 0 ∨ j = 1 by omega) with rfl | rfl <;> rfl) (Nat.le_of_ble_eq_true rfl) (Nat.le_of_ble_eq_true rfl) dX5_init_43 (fun V11 H11 hnw h2 hP hz hS => ?_)
  have hP : HP dd (b + 173) (adz z) V11 H11 := hP
  have hz : H11.size = z + (b + 173) := hz
  have hnw : V11 (b + 172) = .inr (2, [.null, .int 0]) := hnw
  have hob : V11 b = .inr (5, [.ref (adz z (b + 1)), .ref (adz z (b + 58)), .ref (adz z (b + 115)), .int (nI 0), .null, .null, .null]) := (h2 _ (by omega)).trans hob
  have hf2_0 := hf2_0.keep (V1 := V11) (fun k h8 h9 => h2 k (by omega))
  have hf2_1 := hf2_1.keep (V1 := V11) (fun k h8 h9 => h2 k (by omega))
  have hf2_2 := hf2_2.keep (V1 := V11) (fun k h8 h9 => h2 k (by omega))
  have hf5_0 := hf5_0.keep (V1 := V11) (fun k h8 h9 => h2 k (by omega))
  have hf5_1 := hf5_1.keep (V1 := V11) (fun k h8 h9 => h2 k (by omega))
  have hf5_2 := hf5_2.keep (V1 := V11) (fun k h8 h9 => h2 k (by omega))
  have hf8_0 := hf8_0.keep (V1 := V11) (fun k h8 h9 => h2 k (by omega))
  have hf8_1 := hf8_1.keep (V1 := V11) (fun k h8 h9 => h2 k (by omega))
  have hf8_2 := hf8_2.keep (V1 := V11) (fun k h8 h9 => h2 k (by omega))
  have hlow : ∀ k, k < b → V11 k = V k := fun k hk => (h2 k (by omega)).trans (hlow k hk)
  refine W.widen (k := 172) (n := 1502) (Nat.le_of_ble_eq_true rfl) (Nat.le_of_ble_eq_true rfl) ?_
  refine lv_dup hx hb dX5_init_46 rfl ?_
  refine r_callI (b := b + 172) (rest := [.ref (adz z (b + 172)), .ref (adz z (b))]) (w := 229) (sl := 2004) X hC hz hP hS (c_X2_init hnw) m66 m21 m65 m64 ⟨by decide +kernel, by decide +kernel, by decide +kernel⟩ (by decide +kernel) ⟨rfl, rfl⟩ ⟨Nat.le_of_ble_eq_true rfl, Nat.le_of_ble_eq_true rfl⟩ hl.1 (Nat.le_of_ble_eq_true rfl) ⟨Nat.le_of_ble_eq_true rfl, Nat.le_of_ble_eq_true rfl⟩ dX5_init_47 (fun V12 H12 locs12 hq hP hz hS => ?_)
  obtain ⟨hf12_0, hf12_1, hf12_2, hlo12⟩ := hq
  have hP : HP dd (b + 402) (adz z) V12 H12 := hP
  have hz : H12.size = z + (b + 402) := hz
  have hob : V12 b = .inr (5, [.ref (adz z (b + 1)), .ref (adz z (b + 58)), .ref (adz z (b + 115)), .int (nI 0), .null, .null, .null]) := (hlo12 _ (by omega)).trans hob
  have hf2_0 := hf2_0.keep (V1 := V12) (fun k h8 h9 => hlo12 k (by omega))
  have hf2_1 := hf2_1.keep (V1 := V12) (fun k h8 h9 => hlo12 k (by omega))
  have hf2_2 := hf2_2.keep (V1 := V12) (fun k h8 h9 => hlo12 k (by omega))
  have hf5_0 := hf5_0.keep (V1 := V12) (fun k h8 h9 => hlo12 k (by omega))
  have hf5_1 := hf5_1.keep (V1 := V12) (fun k h8 h9 => hlo12 k (by omega))
  have hf5_2 := hf5_2.keep (V1 := V12) (fun k h8 h9 => hlo12 k (by omega))
  have hf8_0 := hf8_0.keep (V1 := V12) (fun k h8 h9 => hlo12 k (by omega))
  have hf8_1 := hf8_1.keep (V1 := V12) (fun k h8 h9 => hlo12 k (by omega))
  have hf8_2 := hf8_2.keep (V1 := V12) (fun k h8 h9 => hlo12 k (by omega))
  have hlow : ∀ k, k < b → V12 k = V k := fun k hk => (hlo12 k (by omega)).trans (hlow k hk)
  refine W.widen (k := 401) (n := 3506) (Nat.le_of_ble_eq_true rfl) (Nat.le_of_ble_eq_true rfl) ?_
  refine r_putF (ci := 5) (k := b) (ty := (.object "SiteCuts$History")) X hP hS rfl inlX5 tyX5 tyX5_ok nmX5 (by omega) hob 4 (by decide) m22 rfl hm rfl (by decide +kernel) rfl rfl (Nat.le_of_ble_eq_true rfl) rfl dX5_init_50 (fun V13 H13 locs13 hnb h2 hP hz2 hS => ?_)
  have hz := hz2.trans hz
  have hP : HP dd (b + 402) (adz z) V13 H13 := hP
  have hz : H13.size = z + (b + 402) := hz
  have hob : V13 b = .inr (5, [.ref (adz z (b + 1)), .ref (adz z (b + 58)), .ref (adz z (b + 115)), .int (nI 0), .ref (adz z (b + 172)), .null, .null]) := hnb
  have hf2_0 := hf2_0.keep (V1 := V13) (fun k h8 h9 => h2 k (by omega))
  have hf2_1 := hf2_1.keep (V1 := V13) (fun k h8 h9 => h2 k (by omega))
  have hf2_2 := hf2_2.keep (V1 := V13) (fun k h8 h9 => h2 k (by omega))
  have hf5_0 := hf5_0.keep (V1 := V13) (fun k h8 h9 => h2 k (by omega))
  have hf5_1 := hf5_1.keep (V1 := V13) (fun k h8 h9 => h2 k (by omega))
  have hf5_2 := hf5_2.keep (V1 := V13) (fun k h8 h9 => h2 k (by omega))
  have hf8_0 := hf8_0.keep (V1 := V13) (fun k h8 h9 => h2 k (by omega))
  have hf8_1 := hf8_1.keep (V1 := V13) (fun k h8 h9 => h2 k (by omega))
  have hf8_2 := hf8_2.keep (V1 := V13) (fun k h8 h9 => h2 k (by omega))
  have hf12_0 := hf12_0.keep (V1 := V13) (fun k h8 h9 => h2 k (by omega))
  have hf12_1 := hf12_1.keep (V1 := V13) (fun k h8 h9 => h2 k (by omega))
  have hf12_2 := hf12_2.keep (V1 := V13) (fun k h8 h9 => h2 k (by omega))
  have hlow : ∀ k, k < b → V13 k = V k := fun k hk => (h2 k (by omega)).trans (hlow k hk)
  refine lv_aload_n hx hb dX5_init_53 rfl (lv_at hl 0 rfl) ?_
  refine c_new (ci := 0) (fs := [.null, .int 0]) X hP hz hS rfl inlX0 tyX0 tyX0_ok m23 m24 m25 (fun j hj => by rcases (show j = 0 ∨ j = 1 by omega) with rfl | rfl <;> rfl) (Nat.le_of_ble_eq_true rfl) (Nat.le_of_ble_eq_true rfl) dX5_init_54 (fun V14 H14 hnw h2 hP hz hS => ?_)
  have hP : HP dd (b + 403) (adz z) V14 H14 := hP
  have hz : H14.size = z + (b + 403) := hz
  have hnw : V14 (b + 402) = .inr (0, [.null, .int 0]) := hnw
  have hob : V14 b = .inr (5, [.ref (adz z (b + 1)), .ref (adz z (b + 58)), .ref (adz z (b + 115)), .int (nI 0), .ref (adz z (b + 172)), .null, .null]) := (h2 _ (by omega)).trans hob
  have hf2_0 := hf2_0.keep (V1 := V14) (fun k h8 h9 => h2 k (by omega))
  have hf2_1 := hf2_1.keep (V1 := V14) (fun k h8 h9 => h2 k (by omega))
  have hf2_2 := hf2_2.keep (V1 := V14) (fun k h8 h9 => h2 k (by omega))
  have hf5_0 := hf5_0.keep (V1 := V14) (fun k h8 h9 => h2 k (by omega))
  have hf5_1 := hf5_1.keep (V1 := V14) (fun k h8 h9 => h2 k (by omega))
  have hf5_2 := hf5_2.keep (V1 := V14) (fun k h8 h9 => h2 k (by omega))
  have hf8_0 := hf8_0.keep (V1 := V14) (fun k h8 h9 => h2 k (by omega))
  have hf8_1 := hf8_1.keep (V1 := V14) (fun k h8 h9 => h2 k (by omega))
  have hf8_2 := hf8_2.keep (V1 := V14) (fun k h8 h9 => h2 k (by omega))
  have hf12_0 := hf12_0.keep (V1 := V14) (fun k h8 h9 => h2 k (by omega))
  have hf12_1 := hf12_1.keep (V1 := V14) (fun k h8 h9 => h2 k (by omega))
  have hf12_2 := hf12_2.keep (V1 := V14) (fun k h8 h9 => h2 k (by omega))
  have hlow : ∀ k, k < b → V14 k = V k := fun k hk => (h2 k (by omega)).trans (hlow k hk)
  refine W.widen (k := 402) (n := 3508) (Nat.le_of_ble_eq_true rfl) (Nat.le_of_ble_eq_true rfl) ?_
  refine lv_dup hx hb dX5_init_57 rfl ?_
  refine r_callI (b := b + 402) (rest := [.ref (adz z (b + 402)), .ref (adz z (b))]) (w := 1) (sl := 60) X hC hz hP hS (c_X0_init hnw) m74 m25 m73 m72 ⟨by decide +kernel, by decide +kernel, by decide +kernel⟩ (by decide +kernel) ⟨rfl, rfl⟩ ⟨Nat.le_of_ble_eq_true rfl, Nat.le_of_ble_eq_true rfl⟩ hl.1 (Nat.le_of_ble_eq_true rfl) ⟨Nat.le_of_ble_eq_true rfl, Nat.le_of_ble_eq_true rfl⟩ dX5_init_58 (fun V15 H15 locs15 hq hP hz hS => ?_)
  obtain ⟨hf15_0, hlo15⟩ := hq
  have hP : HP dd (b + 404) (adz z) V15 H15 := hP
  have hz : H15.size = z + (b + 404) := hz
  have hob : V15 b = .inr (5, [.ref (adz z (b + 1)), .ref (adz z (b + 58)), .ref (adz z (b + 115)), .int (nI 0), .ref (adz z (b + 172)), .null, .null]) := (hlo15 _ (by omega)).trans hob
  have hf2_0 := hf2_0.keep (V1 := V15) (fun k h8 h9 => hlo15 k (by omega))
  have hf2_1 := hf2_1.keep (V1 := V15) (fun k h8 h9 => hlo15 k (by omega))
  have hf2_2 := hf2_2.keep (V1 := V15) (fun k h8 h9 => hlo15 k (by omega))
  have hf5_0 := hf5_0.keep (V1 := V15) (fun k h8 h9 => hlo15 k (by omega))
  have hf5_1 := hf5_1.keep (V1 := V15) (fun k h8 h9 => hlo15 k (by omega))
  have hf5_2 := hf5_2.keep (V1 := V15) (fun k h8 h9 => hlo15 k (by omega))
  have hf8_0 := hf8_0.keep (V1 := V15) (fun k h8 h9 => hlo15 k (by omega))
  have hf8_1 := hf8_1.keep (V1 := V15) (fun k h8 h9 => hlo15 k (by omega))
  have hf8_2 := hf8_2.keep (V1 := V15) (fun k h8 h9 => hlo15 k (by omega))
  have hf12_0 := hf12_0.keep (V1 := V15) (fun k h8 h9 => hlo15 k (by omega))
  have hf12_1 := hf12_1.keep (V1 := V15) (fun k h8 h9 => hlo15 k (by omega))
  have hf12_2 := hf12_2.keep (V1 := V15) (fun k h8 h9 => hlo15 k (by omega))
  have hlow : ∀ k, k < b → V15 k = V k := fun k hk => (hlo15 k (by omega)).trans (hlow k hk)
  refine W.widen (k := 403) (n := 3568) (Nat.le_of_ble_eq_true rfl) (Nat.le_of_ble_eq_true rfl) ?_
  refine r_putF (ci := 5) (k := b) (ty := (.object "SiteCuts$CutText")) X hP hS rfl inlX5 tyX5 tyX5_ok nmX5 (by omega) hob 5 (by decide) m26 rfl hm rfl (by decide +kernel) rfl rfl (Nat.le_of_ble_eq_true rfl) rfl dX5_init_61 (fun V16 H16 locs16 hnb h2 hP hz2 hS => ?_)
  have hz := hz2.trans hz
  have hP : HP dd (b + 404) (adz z) V16 H16 := hP
  have hz : H16.size = z + (b + 404) := hz
  have hob : V16 b = .inr (5, [.ref (adz z (b + 1)), .ref (adz z (b + 58)), .ref (adz z (b + 115)), .int (nI 0), .ref (adz z (b + 172)), .ref (adz z (b + 402)), .null]) := hnb
  have hf2_0 := hf2_0.keep (V1 := V16) (fun k h8 h9 => h2 k (by omega))
  have hf2_1 := hf2_1.keep (V1 := V16) (fun k h8 h9 => h2 k (by omega))
  have hf2_2 := hf2_2.keep (V1 := V16) (fun k h8 h9 => h2 k (by omega))
  have hf5_0 := hf5_0.keep (V1 := V16) (fun k h8 h9 => h2 k (by omega))
  have hf5_1 := hf5_1.keep (V1 := V16) (fun k h8 h9 => h2 k (by omega))
  have hf5_2 := hf5_2.keep (V1 := V16) (fun k h8 h9 => h2 k (by omega))
  have hf8_0 := hf8_0.keep (V1 := V16) (fun k h8 h9 => h2 k (by omega))
  have hf8_1 := hf8_1.keep (V1 := V16) (fun k h8 h9 => h2 k (by omega))
  have hf8_2 := hf8_2.keep (V1 := V16) (fun k h8 h9 => h2 k (by omega))
  have hf12_0 := hf12_0.keep (V1 := V16) (fun k h8 h9 => h2 k (by omega))
  have hf12_1 := hf12_1.keep (V1 := V16) (fun k h8 h9 => h2 k (by omega))
  have hf12_2 := hf12_2.keep (V1 := V16) (fun k h8 h9 => h2 k (by omega))
  have hf15_0 := hf15_0.keep (V1 := V16) (fun k h8 h9 => h2 k (by omega))
  have hlow : ∀ k, k < b → V16 k = V k := fun k hk => (h2 k (by omega)).trans (hlow k hk)
  refine lv_aload_n hx hb dX5_init_64 rfl (lv_at hl 0 rfl) ?_
  refine lv_bipush (v := nI 8) hx hb dX5_init_65 (by decide) ?_
  refine c_newa (n' := 8) X hP hz hS m27 (by decide) (by decide) (by decide) (Nat.le_of_ble_eq_true rfl) (Nat.le_of_ble_eq_true rfl) dX5_init_67 (fun V17 H17 ha17 h2 hP hz hS => ?_)
  have hP : HP dd (b + 405) (adz z) V17 H17 := hP
  have hz : H17.size = z + (b + 405) := hz
  have ha17 : arr t.1 8 (fun _ => 0) (V17 (b + 404)) := ha17
  have hob : V17 b = .inr (5, [.ref (adz z (b + 1)), .ref (adz z (b + 58)), .ref (adz z (b + 115)), .int (nI 0), .ref (adz z (b + 172)), .ref (adz z (b + 402)), .null]) := (h2 _ (by omega)).trans hob
  have hf2_0 := hf2_0.keep (V1 := V17) (fun k h8 h9 => h2 k (by omega))
  have hf2_1 := hf2_1.keep (V1 := V17) (fun k h8 h9 => h2 k (by omega))
  have hf2_2 := hf2_2.keep (V1 := V17) (fun k h8 h9 => h2 k (by omega))
  have hf5_0 := hf5_0.keep (V1 := V17) (fun k h8 h9 => h2 k (by omega))
  have hf5_1 := hf5_1.keep (V1 := V17) (fun k h8 h9 => h2 k (by omega))
  have hf5_2 := hf5_2.keep (V1 := V17) (fun k h8 h9 => h2 k (by omega))
  have hf8_0 := hf8_0.keep (V1 := V17) (fun k h8 h9 => h2 k (by omega))
  have hf8_1 := hf8_1.keep (V1 := V17) (fun k h8 h9 => h2 k (by omega))
  have hf8_2 := hf8_2.keep (V1 := V17) (fun k h8 h9 => h2 k (by omega))
  have hf12_0 := hf12_0.keep (V1 := V17) (fun k h8 h9 => h2 k (by omega))
  have hf12_1 := hf12_1.keep (V1 := V17) (fun k h8 h9 => h2 k (by omega))
  have hf12_2 := hf12_2.keep (V1 := V17) (fun k h8 h9 => h2 k (by omega))
  have hf15_0 := hf15_0.keep (V1 := V17) (fun k h8 h9 => h2 k (by omega))
  have hlow : ∀ k, k < b → V17 k = V k := fun k hk => (h2 k (by omega)).trans (hlow k hk)
  refine W.widen (k := 404) (n := 3576) (Nat.le_of_ble_eq_true rfl) (Nat.le_of_ble_eq_true rfl) ?_
  refine r_putF (ci := 5) (k := b) (ty := (.array .int)) X hP hS rfl inlX5 tyX5 tyX5_ok nmX5 (by omega) hob 6 (by decide) m28 rfl hm rfl (by decide +kernel) rfl rfl (Nat.le_of_ble_eq_true rfl) rfl dX5_init_69 (fun V18 H18 locs18 hnb h2 hP hz2 hS => ?_)
  have hz := hz2.trans hz
  have hP : HP dd (b + 405) (adz z) V18 H18 := hP
  have hz : H18.size = z + (b + 405) := hz
  have hob : V18 b = .inr (5, [.ref (adz z (b + 1)), .ref (adz z (b + 58)), .ref (adz z (b + 115)), .int (nI 0), .ref (adz z (b + 172)), .ref (adz z (b + 402)), .ref (adz z (b + 404))]) := hnb
  have hf2_0 := hf2_0.keep (V1 := V18) (fun k h8 h9 => h2 k (by omega))
  have hf2_1 := hf2_1.keep (V1 := V18) (fun k h8 h9 => h2 k (by omega))
  have hf2_2 := hf2_2.keep (V1 := V18) (fun k h8 h9 => h2 k (by omega))
  have hf5_0 := hf5_0.keep (V1 := V18) (fun k h8 h9 => h2 k (by omega))
  have hf5_1 := hf5_1.keep (V1 := V18) (fun k h8 h9 => h2 k (by omega))
  have hf5_2 := hf5_2.keep (V1 := V18) (fun k h8 h9 => h2 k (by omega))
  have hf8_0 := hf8_0.keep (V1 := V18) (fun k h8 h9 => h2 k (by omega))
  have hf8_1 := hf8_1.keep (V1 := V18) (fun k h8 h9 => h2 k (by omega))
  have hf8_2 := hf8_2.keep (V1 := V18) (fun k h8 h9 => h2 k (by omega))
  have hf12_0 := hf12_0.keep (V1 := V18) (fun k h8 h9 => h2 k (by omega))
  have hf12_1 := hf12_1.keep (V1 := V18) (fun k h8 h9 => h2 k (by omega))
  have hf12_2 := hf12_2.keep (V1 := V18) (fun k h8 h9 => h2 k (by omega))
  have hf15_0 := hf15_0.keep (V1 := V18) (fun k h8 h9 => h2 k (by omega))
  have ha17 : arr t.1 8 (fun _ => 0) (V18 (b + 404)) := by rw [h2 _ (by omega)]; exact ha17
  have hlow : ∀ k, k < b → V18 k = V k := fun k hk => (h2 k (by omega)).trans (hlow k hk)
  exact kr 72 ls _ _ _ hP hz hS ⟨⟨by omega, hob⟩, ⟨hf2_0.grow (by omega), hf2_1.grow (by omega), hf2_2.grow (by omega)⟩, ⟨hf5_0.grow (by omega), hf5_1.grow (by omega), hf5_2.grow (by omega)⟩, ⟨hf8_0.grow (by omega), hf8_1.grow (by omega), hf8_2.grow (by omega)⟩, ⟨hf12_0.grow (by omega), hf12_1.grow (by omega), hf12_2.grow (by omega)⟩, hf15_0.grow (by omega), ⟨by omega, ha17⟩, hlow⟩ dX5_init_72
def rmX6_init : Room := { frames := 1, cells := 6, slots := 3176, locals := 12 }
set_option maxHeartbeats 4000000 in
set_option maxRecDepth 100000 in
theorem c_X6_init {l : Launch} {dd : va_G} {t : CL4} {z b : Nat} {V : Nat → va_E} (hob : V b = .inr (6, [.null, .null, .null, .null, .int 0, .int 0, .null, .int 0, .int 0, .null])) : MI l dd t z b V yX6_init cX6_init 2 rmX6_init 6 3176 (fun V1 => MoP (b + 7) (adz z) V1 t b (mkM row0 (fun _ => 0) (fun _ => 0) (fun _ => 0) 0 0 (fun _ => 0) 0 0 (fun _ => 0)) ∧ ∀ k, k < b → V1 k = V k) := by
  refine MI.of (by decide +kernel) (by decide +kernel) (Nat.le_of_ble_eq_true rfl) ?_
  intro p e s m as below meth c Q X hC hm H hz hP hS ls hl kr
  have X : WX p s m as c cX6_init 2 RX6 dd t := X
  have hx := X.1.1
  have hb := X.1.2.1
  have hlow : ∀ k, k < b → V k = V k := fun _ _ => rfl
  have hz0 := hz
  refine lv_aload_n hx hb dX6_init_0 rfl (lv_at hl 0 rfl) ?_
  refine W.objInit hx hb X.1.2.2.2.1 (X.1.2.2.2.2 _ m82) (X.1.2.2.2.2 _ m10) (X.1.2.2.2.2 _ m11) rfl (by rw [X.1.2.2.1]; exact hl.1) rfl dX6_init_1 (Nat.le_of_ble_eq_true rfl) (Nat.le_of_ble_eq_true rfl) ?_
  refine W.eq (g2 := F0 m 4 ls []) rfl ?_
  refine lv_aload_n hx hb dX6_init_4 rfl (lv_at hl 0 rfl) ?_
  refine lv_sipush (v := nI 444) hx hb dX6_init_5 (by decide) ?_
  refine c_newa (n' := 444) X hP hz hS m27 (by decide) (by decide) (by decide) (Nat.le_of_ble_eq_true rfl) (Nat.le_of_ble_eq_true rfl) dX6_init_8 (fun V1 H1 ha1 h2 hP hz hS => ?_)
  have hP : HP dd (b + 2) (adz z) V1 H1 := hP
  have hz : H1.size = z + (b + 2) := hz
  have ha1 : arr t.1 444 (fun _ => 0) (V1 (b + 1)) := ha1
  have hob : V1 b = .inr (6, [.null, .null, .null, .null, .int 0, .int 0, .null, .int 0, .int 0, .null]) := (h2 _ (by omega)).trans hob
  have hlow : ∀ k, k < b → V1 k = V k := fun k hk => (h2 k (by omega)).trans (hlow k hk)
  refine W.widen (k := 1) (n := 444) (Nat.le_of_ble_eq_true rfl) (Nat.le_of_ble_eq_true rfl) ?_
  refine r_putF (ci := 6) (k := b) (ty := (.array .int)) X hP hS rfl inlX6 tyX6 tyX6_ok nmX6 (by omega) hob 0 (by decide) m83 rfl hm rfl (by decide +kernel) rfl rfl (Nat.le_of_ble_eq_true rfl) rfl dX6_init_10 (fun V2 H2 locs2 hnb h2 hP hz2 hS => ?_)
  have hz := hz2.trans hz
  have hP : HP dd (b + 2) (adz z) V2 H2 := hP
  have hz : H2.size = z + (b + 2) := hz
  have hob : V2 b = .inr (6, [.ref (adz z (b + 1)), .null, .null, .null, .int 0, .int 0, .null, .int 0, .int 0, .null]) := hnb
  have ha1 : arr t.1 444 (fun _ => 0) (V2 (b + 1)) := by rw [h2 _ (by omega)]; exact ha1
  have hlow : ∀ k, k < b → V2 k = V k := fun k hk => (h2 k (by omega)).trans (hlow k hk)
  refine lv_aload_n hx hb dX6_init_13 rfl (lv_at hl 0 rfl) ?_
  refine lv_sipush (v := nI 1776) hx hb dX6_init_14 (by decide) ?_
  refine c_newa (n' := 1776) X hP hz hS m27 (by decide) (by decide) (by decide) (Nat.le_of_ble_eq_true rfl) (Nat.le_of_ble_eq_true rfl) dX6_init_17 (fun V3 H3 ha3 h2 hP hz hS => ?_)
  have hP : HP dd (b + 3) (adz z) V3 H3 := hP
  have hz : H3.size = z + (b + 3) := hz
  have ha3 : arr t.1 1776 (fun _ => 0) (V3 (b + 2)) := ha3
  have hob : V3 b = .inr (6, [.ref (adz z (b + 1)), .null, .null, .null, .int 0, .int 0, .null, .int 0, .int 0, .null]) := (h2 _ (by omega)).trans hob
  have ha1 : arr t.1 444 (fun _ => 0) (V3 (b + 1)) := by rw [h2 _ (by omega)]; exact ha1
  have hlow : ∀ k, k < b → V3 k = V k := fun k hk => (h2 k (by omega)).trans (hlow k hk)
  refine W.widen (k := 2) (n := 2220) (Nat.le_of_ble_eq_true rfl) (Nat.le_of_ble_eq_true rfl) ?_
  refine r_putF (ci := 6) (k := b) (ty := (.array .int)) X hP hS rfl inlX6 tyX6 tyX6_ok nmX6 (by omega) hob 1 (by decide) m84 rfl hm rfl (by decide +kernel) rfl rfl (Nat.le_of_ble_eq_true rfl) rfl dX6_init_19 (fun V4 H4 locs4 hnb h2 hP hz2 hS => ?_)
  have hz := hz2.trans hz
  have hP : HP dd (b + 3) (adz z) V4 H4 := hP
  have hz : H4.size = z + (b + 3) := hz
  have hob : V4 b = .inr (6, [.ref (adz z (b + 1)), .ref (adz z (b + 2)), .null, .null, .int 0, .int 0, .null, .int 0, .int 0, .null]) := hnb
  have ha1 : arr t.1 444 (fun _ => 0) (V4 (b + 1)) := by rw [h2 _ (by omega)]; exact ha1
  have ha3 : arr t.1 1776 (fun _ => 0) (V4 (b + 2)) := by rw [h2 _ (by omega)]; exact ha3
  have hlow : ∀ k, k < b → V4 k = V k := fun k hk => (h2 k (by omega)).trans (hlow k hk)
  refine lv_aload_n hx hb dX6_init_22 rfl (lv_at hl 0 rfl) ?_
  refine lv_sipush (v := nI 444) hx hb dX6_init_23 (by decide) ?_
  refine c_newa (n' := 444) X hP hz hS m27 (by decide) (by decide) (by decide) (Nat.le_of_ble_eq_true rfl) (Nat.le_of_ble_eq_true rfl) dX6_init_26 (fun V5 H5 ha5 h2 hP hz hS => ?_)
  have hP : HP dd (b + 4) (adz z) V5 H5 := hP
  have hz : H5.size = z + (b + 4) := hz
  have ha5 : arr t.1 444 (fun _ => 0) (V5 (b + 3)) := ha5
  have hob : V5 b = .inr (6, [.ref (adz z (b + 1)), .ref (adz z (b + 2)), .null, .null, .int 0, .int 0, .null, .int 0, .int 0, .null]) := (h2 _ (by omega)).trans hob
  have ha1 : arr t.1 444 (fun _ => 0) (V5 (b + 1)) := by rw [h2 _ (by omega)]; exact ha1
  have ha3 : arr t.1 1776 (fun _ => 0) (V5 (b + 2)) := by rw [h2 _ (by omega)]; exact ha3
  have hlow : ∀ k, k < b → V5 k = V k := fun k hk => (h2 k (by omega)).trans (hlow k hk)
  refine W.widen (k := 3) (n := 2664) (Nat.le_of_ble_eq_true rfl) (Nat.le_of_ble_eq_true rfl) ?_
  refine r_putF (ci := 6) (k := b) (ty := (.array .int)) X hP hS rfl inlX6 tyX6 tyX6_ok nmX6 (by omega) hob 2 (by decide) m85 rfl hm rfl (by decide +kernel) rfl rfl (Nat.le_of_ble_eq_true rfl) rfl dX6_init_28 (fun V6 H6 locs6 hnb h2 hP hz2 hS => ?_)
  have hz := hz2.trans hz
  have hP : HP dd (b + 4) (adz z) V6 H6 := hP
  have hz : H6.size = z + (b + 4) := hz
  have hob : V6 b = .inr (6, [.ref (adz z (b + 1)), .ref (adz z (b + 2)), .ref (adz z (b + 3)), .null, .int 0, .int 0, .null, .int 0, .int 0, .null]) := hnb
  have ha1 : arr t.1 444 (fun _ => 0) (V6 (b + 1)) := by rw [h2 _ (by omega)]; exact ha1
  have ha3 : arr t.1 1776 (fun _ => 0) (V6 (b + 2)) := by rw [h2 _ (by omega)]; exact ha3
  have ha5 : arr t.1 444 (fun _ => 0) (V6 (b + 3)) := by rw [h2 _ (by omega)]; exact ha5
  have hlow : ∀ k, k < b → V6 k = V k := fun k hk => (h2 k (by omega)).trans (hlow k hk)
  refine lv_aload_n hx hb dX6_init_31 rfl (lv_at hl 0 rfl) ?_
  refine lv_sipush (v := nI 444) hx hb dX6_init_32 (by decide) ?_
  refine c_newa (n' := 444) X hP hz hS m27 (by decide) (by decide) (by decide) (Nat.le_of_ble_eq_true rfl) (Nat.le_of_ble_eq_true rfl) dX6_init_35 (fun V7 H7 ha7 h2 hP hz hS => ?_)
  have hP : HP dd (b + 5) (adz z) V7 H7 := hP
  have hz : H7.size = z + (b + 5) := hz
  have ha7 : arr t.1 444 (fun _ => 0) (V7 (b + 4)) := ha7
  have hob : V7 b = .inr (6, [.ref (adz z (b + 1)), .ref (adz z (b + 2)), .ref (adz z (b + 3)), .null, .int 0, .int 0, .null, .int 0, .int 0, .null]) := (h2 _ (by omega)).trans hob
  have ha1 : arr t.1 444 (fun _ => 0) (V7 (b + 1)) := by rw [h2 _ (by omega)]; exact ha1
  have ha3 : arr t.1 1776 (fun _ => 0) (V7 (b + 2)) := by rw [h2 _ (by omega)]; exact ha3
  have ha5 : arr t.1 444 (fun _ => 0) (V7 (b + 3)) := by rw [h2 _ (by omega)]; exact ha5
  have hlow : ∀ k, k < b → V7 k = V k := fun k hk => (h2 k (by omega)).trans (hlow k hk)
  refine W.widen (k := 4) (n := 3108) (Nat.le_of_ble_eq_true rfl) (Nat.le_of_ble_eq_true rfl) ?_
  refine r_putF (ci := 6) (k := b) (ty := (.array .int)) X hP hS rfl inlX6 tyX6 tyX6_ok nmX6 (by omega) hob 3 (by decide) m86 rfl hm rfl (by decide +kernel) rfl rfl (Nat.le_of_ble_eq_true rfl) rfl dX6_init_37 (fun V8 H8 locs8 hnb h2 hP hz2 hS => ?_)
  have hz := hz2.trans hz
  have hP : HP dd (b + 5) (adz z) V8 H8 := hP
  have hz : H8.size = z + (b + 5) := hz
  have hob : V8 b = .inr (6, [.ref (adz z (b + 1)), .ref (adz z (b + 2)), .ref (adz z (b + 3)), .ref (adz z (b + 4)), .int 0, .int 0, .null, .int 0, .int 0, .null]) := hnb
  have ha1 : arr t.1 444 (fun _ => 0) (V8 (b + 1)) := by rw [h2 _ (by omega)]; exact ha1
  have ha3 : arr t.1 1776 (fun _ => 0) (V8 (b + 2)) := by rw [h2 _ (by omega)]; exact ha3
  have ha5 : arr t.1 444 (fun _ => 0) (V8 (b + 3)) := by rw [h2 _ (by omega)]; exact ha5
  have ha7 : arr t.1 444 (fun _ => 0) (V8 (b + 4)) := by rw [h2 _ (by omega)]; exact ha7
  have hlow : ∀ k, k < b → V8 k = V k := fun k hk => (h2 k (by omega)).trans (hlow k hk)
  refine lv_aload_n hx hb dX6_init_40 rfl (lv_at hl 0 rfl) ?_
  refine lv_bipush (v := nI 60) hx hb dX6_init_41 (by decide) ?_
  refine c_newc (n' := 60) X hP hz hS m76 (by decide) (by decide) (by decide) (Nat.le_of_ble_eq_true rfl) (Nat.le_of_ble_eq_true rfl) dX6_init_43 (fun V9 H9 ha9 h2 hP hz hS => ?_)
  have hP : HP dd (b + 6) (adz z) V9 H9 := hP
  have hz : H9.size = z + (b + 6) := hz
  have ha9 : arr t.2.1 60 (fun _ => 0) (V9 (b + 5)) := ha9
  have hob : V9 b = .inr (6, [.ref (adz z (b + 1)), .ref (adz z (b + 2)), .ref (adz z (b + 3)), .ref (adz z (b + 4)), .int 0, .int 0, .null, .int 0, .int 0, .null]) := (h2 _ (by omega)).trans hob
  have ha1 : arr t.1 444 (fun _ => 0) (V9 (b + 1)) := by rw [h2 _ (by omega)]; exact ha1
  have ha3 : arr t.1 1776 (fun _ => 0) (V9 (b + 2)) := by rw [h2 _ (by omega)]; exact ha3
  have ha5 : arr t.1 444 (fun _ => 0) (V9 (b + 3)) := by rw [h2 _ (by omega)]; exact ha5
  have ha7 : arr t.1 444 (fun _ => 0) (V9 (b + 4)) := by rw [h2 _ (by omega)]; exact ha7
  have hlow : ∀ k, k < b → V9 k = V k := fun k hk => (h2 k (by omega)).trans (hlow k hk)
  refine W.widen (k := 5) (n := 3168) (Nat.le_of_ble_eq_true rfl) (Nat.le_of_ble_eq_true rfl) ?_
  refine r_putF (ci := 6) (k := b) (ty := (.array .char)) X hP hS rfl inlX6 tyX6 tyX6_ok nmX6 (by omega) hob 6 (by decide) m87 rfl hm rfl (by decide +kernel) rfl rfl (Nat.le_of_ble_eq_true rfl) rfl dX6_init_45 (fun V10 H10 locs10 hnb h2 hP hz2 hS => ?_)
  have hz := hz2.trans hz
  have hP : HP dd (b + 6) (adz z) V10 H10 := hP
  have hz : H10.size = z + (b + 6) := hz
  have hob : V10 b = .inr (6, [.ref (adz z (b + 1)), .ref (adz z (b + 2)), .ref (adz z (b + 3)), .ref (adz z (b + 4)), .int 0, .int 0, .ref (adz z (b + 5)), .int 0, .int 0, .null]) := hnb
  have ha1 : arr t.1 444 (fun _ => 0) (V10 (b + 1)) := by rw [h2 _ (by omega)]; exact ha1
  have ha3 : arr t.1 1776 (fun _ => 0) (V10 (b + 2)) := by rw [h2 _ (by omega)]; exact ha3
  have ha5 : arr t.1 444 (fun _ => 0) (V10 (b + 3)) := by rw [h2 _ (by omega)]; exact ha5
  have ha7 : arr t.1 444 (fun _ => 0) (V10 (b + 4)) := by rw [h2 _ (by omega)]; exact ha7
  have ha9 : arr t.2.1 60 (fun _ => 0) (V10 (b + 5)) := by rw [h2 _ (by omega)]; exact ha9
  have hlow : ∀ k, k < b → V10 k = V k := fun k hk => (h2 k (by omega)).trans (hlow k hk)
  refine lv_aload_n hx hb dX6_init_48 rfl (lv_at hl 0 rfl) ?_
  refine lv_bipush (v := nI 8) hx hb dX6_init_49 (by decide) ?_
  refine c_newa (n' := 8) X hP hz hS m27 (by decide) (by decide) (by decide) (Nat.le_of_ble_eq_true rfl) (Nat.le_of_ble_eq_true rfl) dX6_init_51 (fun V11 H11 ha11 h2 hP hz hS => ?_)
  have hP : HP dd (b + 7) (adz z) V11 H11 := hP
  have hz : H11.size = z + (b + 7) := hz
  have ha11 : arr t.1 8 (fun _ => 0) (V11 (b + 6)) := ha11
  have hob : V11 b = .inr (6, [.ref (adz z (b + 1)), .ref (adz z (b + 2)), .ref (adz z (b + 3)), .ref (adz z (b + 4)), .int 0, .int 0, .ref (adz z (b + 5)), .int 0, .int 0, .null]) := (h2 _ (by omega)).trans hob
  have ha1 : arr t.1 444 (fun _ => 0) (V11 (b + 1)) := by rw [h2 _ (by omega)]; exact ha1
  have ha3 : arr t.1 1776 (fun _ => 0) (V11 (b + 2)) := by rw [h2 _ (by omega)]; exact ha3
  have ha5 : arr t.1 444 (fun _ => 0) (V11 (b + 3)) := by rw [h2 _ (by omega)]; exact ha5
  have ha7 : arr t.1 444 (fun _ => 0) (V11 (b + 4)) := by rw [h2 _ (by omega)]; exact ha7
  have ha9 : arr t.2.1 60 (fun _ => 0) (V11 (b + 5)) := by rw [h2 _ (by omega)]; exact ha9
  have hlow : ∀ k, k < b → V11 k = V k := fun k hk => (h2 k (by omega)).trans (hlow k hk)
  refine W.widen (k := 6) (n := 3176) (Nat.le_of_ble_eq_true rfl) (Nat.le_of_ble_eq_true rfl) ?_
  refine r_putF (ci := 6) (k := b) (ty := (.array .int)) X hP hS rfl inlX6 tyX6 tyX6_ok nmX6 (by omega) hob 9 (by decide) m88 rfl hm rfl (by decide +kernel) rfl rfl (Nat.le_of_ble_eq_true rfl) rfl dX6_init_53 (fun V12 H12 locs12 hnb h2 hP hz2 hS => ?_)
  have hz := hz2.trans hz
  have hP : HP dd (b + 7) (adz z) V12 H12 := hP
  have hz : H12.size = z + (b + 7) := hz
  have hob : V12 b = .inr (6, [.ref (adz z (b + 1)), .ref (adz z (b + 2)), .ref (adz z (b + 3)), .ref (adz z (b + 4)), .int 0, .int 0, .ref (adz z (b + 5)), .int 0, .int 0, .ref (adz z (b + 6))]) := hnb
  have ha1 : arr t.1 444 (fun _ => 0) (V12 (b + 1)) := by rw [h2 _ (by omega)]; exact ha1
  have ha3 : arr t.1 1776 (fun _ => 0) (V12 (b + 2)) := by rw [h2 _ (by omega)]; exact ha3
  have ha5 : arr t.1 444 (fun _ => 0) (V12 (b + 3)) := by rw [h2 _ (by omega)]; exact ha5
  have ha7 : arr t.1 444 (fun _ => 0) (V12 (b + 4)) := by rw [h2 _ (by omega)]; exact ha7
  have ha9 : arr t.2.1 60 (fun _ => 0) (V12 (b + 5)) := by rw [h2 _ (by omega)]; exact ha9
  have ha11 : arr t.1 8 (fun _ => 0) (V12 (b + 6)) := by rw [h2 _ (by omega)]; exact ha11
  have hlow : ∀ k, k < b → V12 k = V k := fun k hk => (h2 k (by omega)).trans (hlow k hk)
  refine lv_aload_n hx hb dX6_init_56 rfl (lv_at hl 0 rfl) ?_
  refine r_get X hP (ci := 6) (k := b) rfl inlX6 (by omega) hob 0 (by decide) m83 rfl dX6_init_57 ?_
  refine lv_iconst (v := nI 2) hx hb dX6_init_60 (by decide) ?_
  refine lv_bipush (v := nI 7) hx hb dX6_init_61 (by decide) ?_
  refine r_istZ X hP hS (k := b + 1) (by omega) ha1 (j := 2) (by decide) (by decide) dX6_init_63 (fun V13 H13 locs13 hnq h2 hP hz2 hS => ?_)
  have hz := hz2.trans hz
  have hP : HP dd (b + 7) (adz z) V13 H13 := hP
  have hz : H13.size = z + (b + 7) := hz
  have ha1 : arr t.1 444 (upd (fun _ => 0) 2 (nI 7)) (V13 (b + 1)) := hnq
  have hob : V13 b = .inr (6, [.ref (adz z (b + 1)), .ref (adz z (b + 2)), .ref (adz z (b + 3)), .ref (adz z (b + 4)), .int 0, .int 0, .ref (adz z (b + 5)), .int 0, .int 0, .ref (adz z (b + 6))]) := (h2 _ (by omega)).trans hob
  have ha3 : arr t.1 1776 (fun _ => 0) (V13 (b + 2)) := by rw [h2 _ (by omega)]; exact ha3
  have ha5 : arr t.1 444 (fun _ => 0) (V13 (b + 3)) := by rw [h2 _ (by omega)]; exact ha5
  have ha7 : arr t.1 444 (fun _ => 0) (V13 (b + 4)) := by rw [h2 _ (by omega)]; exact ha7
  have ha9 : arr t.2.1 60 (fun _ => 0) (V13 (b + 5)) := by rw [h2 _ (by omega)]; exact ha9
  have ha11 : arr t.1 8 (fun _ => 0) (V13 (b + 6)) := by rw [h2 _ (by omega)]; exact ha11
  have hlow : ∀ k, k < b → V13 k = V k := fun k hk => (h2 k (by omega)).trans (hlow k hk)
  refine lv_aload_n hx hb dX6_init_64 rfl (lv_at hl 0 rfl) ?_
  refine r_get X hP (ci := 6) (k := b) rfl inlX6 (by omega) hob 0 (by decide) m83 rfl dX6_init_65 ?_
  refine lv_iconst (v := nI 4) hx hb dX6_init_68 (by decide) ?_
  refine lv_bipush (v := (-5)) hx hb dX6_init_69 (by decide) ?_
  refine r_istZ X hP hS (k := b + 1) (by omega) ha1 (j := 4) (by decide) (by decide) dX6_init_71 (fun V14 H14 locs14 hnq h2 hP hz2 hS => ?_)
  have hz := hz2.trans hz
  have hP : HP dd (b + 7) (adz z) V14 H14 := hP
  have hz : H14.size = z + (b + 7) := hz
  have ha1 : arr t.1 444 (upd (upd (fun _ => 0) 2 (nI 7)) 4 (-5)) (V14 (b + 1)) := hnq
  have hob : V14 b = .inr (6, [.ref (adz z (b + 1)), .ref (adz z (b + 2)), .ref (adz z (b + 3)), .ref (adz z (b + 4)), .int 0, .int 0, .ref (adz z (b + 5)), .int 0, .int 0, .ref (adz z (b + 6))]) := (h2 _ (by omega)).trans hob
  have ha3 : arr t.1 1776 (fun _ => 0) (V14 (b + 2)) := by rw [h2 _ (by omega)]; exact ha3
  have ha5 : arr t.1 444 (fun _ => 0) (V14 (b + 3)) := by rw [h2 _ (by omega)]; exact ha5
  have ha7 : arr t.1 444 (fun _ => 0) (V14 (b + 4)) := by rw [h2 _ (by omega)]; exact ha7
  have ha9 : arr t.2.1 60 (fun _ => 0) (V14 (b + 5)) := by rw [h2 _ (by omega)]; exact ha9
  have ha11 : arr t.1 8 (fun _ => 0) (V14 (b + 6)) := by rw [h2 _ (by omega)]; exact ha11
  have hlow : ∀ k, k < b → V14 k = V k := fun k hk => (h2 k (by omega)).trans (hlow k hk)
  refine lv_iconst (v := nI 0) hx hb dX6_init_72 (by decide) ?_
  refine lv_istore_n (lv' := [(1, .int (nI 0)), (0, .ref (adz z (b)))]) hx hb dX6_init_73 rfl hl (by decide) rfl (fun ls hl => ?_)
  have Lp : ∀ (d i : Nat) (u : Nat → Int32) (Vx : Nat → va_E) (Hx : Heap) (lx : List Loc) (ls : Array Slot), i + d = 56 → l_X6_init d i u = l_X6_init 56 0 ((upd (upd (fun _ => 0) 2 (nI 7)) 4 (-5))) → arr t.1 444 u (Vx (b + 1)) → (∀ k, k ≠ b + 1 → Vx k = V14 k) → HP dd (b + 7) (adz z) Vx Hx → Hx.size = z + (b + 7) → va_S (Az z) H Hx lx → lv_has ls 2 [(0, .ref (adz z b)), (1, .int (nI i))] → W p l e rmX6_init s m as below meth c Hx lx 6 3176 Q (F0 m 74 ls []) := by
    intro d
    induction d with
    | zero =>
      intro i u Vx Hx lx ls hid hv hu hot hP hz hS hl
      have hi56 : 56 = i := by omega
      subst hi56
      refine lv_iload_n hx hb dX6_init_74 rfl (lv_at hl 1 rfl) ?_
      refine lv_bipush (v := nI 56) hx hb dX6_init_75 (by decide) ?_
      refine q_ge (x := 56) (y := 56) (tgt := 97) hx hb (by omega) (by omega) dX6_init_77 (by decide) (fun _ => ?_) (fun h => absurd h (by omega))
      have hv : u = l_X6_init 56 0 ((upd (upd (fun _ => 0) 2 (nI 7)) 4 (-5))) := hv
      subst hv
      have hob : Vx b = .inr (6, [.ref (adz z (b + 1)), .ref (adz z (b + 2)), .ref (adz z (b + 3)), .ref (adz z (b + 4)), .int 0, .int 0, .ref (adz z (b + 5)), .int 0, .int 0, .ref (adz z (b + 6))]) := (hot _ (by omega)).trans hob
      have ha3 : arr t.1 1776 (fun _ => 0) (Vx (b + 2)) := by rw [hot _ (by omega)]; exact ha3
      have ha5 : arr t.1 444 (fun _ => 0) (Vx (b + 3)) := by rw [hot _ (by omega)]; exact ha5
      have ha7 : arr t.1 444 (fun _ => 0) (Vx (b + 4)) := by rw [hot _ (by omega)]; exact ha7
      have ha9 : arr t.2.1 60 (fun _ => 0) (Vx (b + 5)) := by rw [hot _ (by omega)]; exact ha9
      have ha11 : arr t.1 8 (fun _ => 0) (Vx (b + 6)) := by rw [hot _ (by omega)]; exact ha11
      have ha1 := hu
      have hlow : ∀ k, k < b → Vx k = V k := fun k hk => (hot k (by omega)).trans (hlow k hk)
      exact kr 97 ls _ _ _ hP hz hS ⟨⟨by omega, hob, ha1, ha3, ha5, ha7, ha9, ha11⟩, hlow⟩ dX6_init_97
    | succ d ih =>
      intro i u Vx Hx lx ls hid hv hu hot hP hz hS hl
      refine lv_iload_n hx hb dX6_init_74 rfl (lv_at hl 1 rfl) ?_
      refine lv_bipush (v := nI 56) hx hb dX6_init_75 (by decide) ?_
      refine q_ge (x := i) (y := 56) (tgt := 97) hx hb (by omega) (by omega) dX6_init_77 (by decide) (fun h => absurd h (by omega)) (fun _ => ?_)
      refine lv_aload_n hx hb dX6_init_80 rfl (lv_at hl 0 rfl) ?_
      have hobx : Vx b = .inr (6, [.ref (adz z (b + 1)), .ref (adz z (b + 2)), .ref (adz z (b + 3)), .ref (adz z (b + 4)), .int 0, .int 0, .ref (adz z (b + 5)), .int 0, .int 0, .ref (adz z (b + 6))]) := (hot _ (by omega)).trans hob
      refine r_get X hP (ci := 6) (k := b) rfl inlX6 (by omega) hobx 0 (by decide) m83 rfl dX6_init_81 ?_
      refine lv_bipush (v := nI 21) hx hb dX6_init_84 (by decide) ?_
      refine lv_iload_n hx hb dX6_init_86 rfl (lv_at hl 1 rfl) ?_
      refine q_iadd hx hb dX6_init_87 ?_
      refine lv_bipush (v := nI 100) hx hb dX6_init_88 (by decide) ?_
      refine r_istZ X hP hS (k := b + 1) (by omega) hu (j := 21 + i) (by omega) (by decide) dX6_init_90 (fun Vy Hy ly hnq h2 hP hz2 hS => ?_)
      refine lv_iinc (v := nI (i + 1)) (lv' := [(1, .int (nI (i + 1))), (0, .ref (adz z b))]) hx hb dX6_init_91 hl (k := 1) rfl (nI_inc _) (by decide) rfl (fun ls hl => ?_)
      refine lv_goto (tgt := 74) hx hb dX6_init_94 (by decide) ?_
      exact ih (i + 1) _ Vy Hy ly ls (by omega) hv hnq (fun k hk => (h2 k hk).trans (hot k hk)) hP (hz2.trans hz) hS (lv_sub hl [1, 0] rfl)
  exact Lp 56 0 _ _ _ _ ls (by omega) rfl ha1 (fun _ _ => rfl) hP hz hS (lv_sub hl [1, 0] rfl)
