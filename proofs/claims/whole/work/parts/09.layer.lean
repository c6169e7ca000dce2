/-! THE LAYER: one world of N numbered cells at addresses ad 0, ad 1 ..; what they hold: V. A method that only reads: RM. One that writes: MM, MV. -/
abbrev CL4 : Type := ClassId × ClassId × ClassId × ClassId
def tyL (t : CL4) : List (ClassId × FieldType) := [(t.1, .int), (t.2.1, .char), (t.2.2.1, .array .int), (t.2.2.2, .object RX4)]
def nw3 : Cond := .methodLinkNest RX3 40 yX5_isIn RX5
def nw1 : Cond := .methodLinkNest RX1 59 yX5_isIn RX5
/-- what a state's tables say, beside the words of GW -/
def Cx (dd : va_G) (t : CL4) (U : State) : Prop := va_K dd vwCl (tyL t) U ∧ va_Nw nw3 U ∧ va_Nw nw1 U
theorem Cx.warm {dd : va_G} {t : CL4} {s U : State} (hW : s.WarmedH U.vm) (h : Cx dd t s) : Cx dd t U := ⟨va_K.moved hW.alike h.1, va_Nw.warmM hW h.2.1, va_Nw.warmM hW h.2.2⟩
theorem Cx.calling {dd : va_G} {t : CL4} {U : State} {g : JFrame} {mk : MethodId} {a : Array Value} (h : Cx dd t U) : Cx dd t (U.calling g mk a) :=
  ⟨va_K.moved (u := U) (U := U.calling g mk a) (Vm.Alike.refl U.vm) h.1, va_Nw.same (u := U) rfl rfl h.2.1, va_Nw.same (u := U) rfl rfl h.2.2⟩
def WX (p : Program) (s : State) (m : MethodId) (as : Array Value) (c : Code) (cc : ByteArray) (nL : Nat) (own : String) (dd : va_G) (t : CL4) : Prop := CallFix p m c cc nL s as GW own ∧ Cx dd t s
/-- the world -/
def wd (N : Nat) (ad : Nat → Nat) (V : Nat → va_E) : va_W := (List.range N).map (fun k => (ad k, V k))
theorem wd_at {N : Nat} {ad : Nat → Nat} {V : Nat → va_E} {k : Nat} (h : k < N) : (wd N ad V)[k]? = some (ad k, V k) := by
  unfold wd
  rw [List.getElem?_map, List.getElem?_range h]
  rfl
theorem wd_len {N : Nat} {ad : Nat → Nat} {V : Nat → va_E} : (wd N ad V).length = N := by simp [wd]
theorem wd_of {N : Nat} {ad : Nat → Nat} {V : Nat → va_E} {k : Nat} {q : Nat × va_E} (h : (wd N ad V)[k]? = some q) : k < N ∧ q = (ad k, V k) := by
  have hk : k < N := by
    have := (List.getElem?_eq_some_iff.mp h).1
    rwa [wd_len] at this
  rw [wd_at hk] at h
  exact ⟨hk, (Option.some.inj h).symm⟩
theorem wd_set {N : Nat} {ad : Nat → Nat} {V : Nat → va_E} {k : Nat} {e : va_E} (h : k < N) : (wd N ad V).set k (ad k, e) = wd N ad (va_up V k e) := by
  apply List.ext_getElem?
  intro j
  by_cases hj : j = k
  · subst hj
    rw [List.getElem?_set_self (by rw [wd_len]; exact h), wd_at h, va_up_self]
  · rw [List.getElem?_set_ne (Ne.symm hj)]
    by_cases hN : j < N
    · rw [wd_at hN, wd_at hN, va_up_ne _ _ hj]
    · rw [List.getElem?_eq_none (by rw [wd_len]; omega), List.getElem?_eq_none (by rw [wd_len]; omega)]
def inj (N : Nat) (ad : Nat → Nat) : Prop := ∀ i j, i < N → j < N → ad i = ad j → i = j
def dm (N : Nat) (ad : Nat → Nat) (sz : Nat) : Nat → Prop := fun q => (∃ k, k < N ∧ q = ad k) ∨ sz ≤ q
theorem dm_in {N : Nat} {ad : Nat → Nat} {sz k : Nat} (h : k < N) : dm N ad sz (ad k) := Or.inl ⟨k, h, rfl⟩
theorem dm_new {N : Nat} {ad : Nat → Nat} {sz q : Nat} (h : sz ≤ q) : dm N ad sz q := Or.inr h
theorem wd_D {N : Nat} {ad : Nat → Nat} {V : Nat → va_E} {sz : Nat} (hi : inj N ad) : va_D (dm N ad sz) (wd N ad V) := by
  refine ⟨fun i j p q h1 h2 h3 => ?_, fun k q h => ?_⟩
  · obtain ⟨a1, a2⟩ := wd_of h1
    obtain ⟨b1, b2⟩ := wd_of h2
    rw [a2, b2] at h3
    exact hi i j a1 b1 h3
  · obtain ⟨a1, a2⟩ := wd_of h
    rw [a2]
    exact dm_in a1
abbrev HP (dd : va_G) (N : Nat) (ad : Nat → Nat) (V : Nat → va_E) (H : Heap) : Prop := va_P dd vwCl (wd N ad V) H
theorem HP.congr {dd : va_G} {N : Nat} {ad : Nat → Nat} {V V' : Nat → va_E} {H : Heap} (h : HP dd N ad V H) (e : ∀ k, k < N → V' k = V k) : HP dd N ad V' H := by
  intro k q hq
  obtain ⟨a1, a2⟩ := wd_of hq
  rw [a2, e k a1]
  exact h k _ (wd_at a1)
theorem dm_mono {N : Nat} {ad : Nat → Nat} {sz sz' q : Nat} (h : sz ≤ sz') (hq : dm N ad sz' q) : dm N ad sz q := by
  rcases hq with h1 | h1
  · exact Or.inl h1
  · exact Or.inr (Nat.le_trans h h1)
/-- contracts -/
def RM (l : Launch) (dd : va_G) (t : CL4) (N : Nat) (ad : Nat → Nat) (V : Nat → va_E) (y : MethodName) (b : ByteArray) (nL : Nat) (ret : Option FieldType) (rm : Room) (args : List Value) (v : Int32) : Prop :=
  Met l y (Cond.code y b nL ret :: GW) rm (va_Pc args (fun U => Cx dd t U ∧ HP dd N ad V U.heap)) (vp_Si (fun r => r = v)) 0 0 (fun _ => False)
def MM (l : Launch) (dd : va_G) (t : CL4) (N : Nat) (ad : Nat → Nat) (V : Nat → va_E) (y : MethodName) (b : ByteArray) (nL : Nat) (ret : Option FieldType) (rm : Room) (args : List Value) (post : Int32 → (Nat → va_E) → Prop) : Prop :=
  ∀ sz : Nat, Met l y (Cond.code y b nL ret :: GW) rm (va_Pc args (fun U => U.heap.size = sz ∧ Cx dd t U ∧ HP dd N ad V U.heap)) (va_Qi post (fun V' t' => HP dd N ad V' t'.heap) (dm N ad sz)) 0 0 (dm N ad sz)
def MV (l : Launch) (dd : va_G) (t : CL4) (N : Nat) (ad : Nat → Nat) (V : Nat → va_E) (y : MethodName) (b : ByteArray) (nL : Nat) (rm : Room) (args : List Value) (post : (Nat → va_E) → Prop) : Prop :=
  ∀ sz : Nat, Met l y (Cond.code y b nL none :: GW) rm (va_Pc args (fun U => U.heap.size = sz ∧ Cx dd t U ∧ HP dd N ad V U.heap)) (va_Qv post (fun V' t' => HP dd N ad V' t'.heap) (dm N ad sz)) 0 0 (dm N ad sz)
section LY
variable {p : Program} {l : Launch} {e : Env} {R : Room} {s : State} {m : MethodId} {as : Array Value} {below : List Frame} {meth : Method} {c : Code} {H H0 : Heap} {locs : List Loc} {cells slots : Nat} {Q : State → Prop}
variable {cc : ByteArray} {nL pc : Nat} {own : String} {ls : Array Slot} {rest : List Value} {dd : va_G} {t : CL4} {N : Nat} {ad : Nat → Nat} {V : Nat → va_E}
theorem r_get (X : WX p s m as c cc nL own dd t) (hP : HP dd N ad V H) {k ci : Nat} {C : String} {T : u_T} {n : Nat} (hc : vwCl[ci]? = some (C, T, n)) (hin : ∀ w ∈ u_ws C T n, w ∈ GW) {fs : List Value} (hk : k < N) (hV : V k = .inr (ci, fs)) (j : Nat) (hj : j < n) {index : Nat}
    (hlink : Cond.fieldLink own index (T j).1 (T j).2.1 (T j).2.2.1 ∈ GW) {v : Value} (hv : fs[j]? = some v) (hdg : decode cc pc = .ok (.getfield index, 3))
    (kk : W p l e R s m as below meth c H locs cells slots Q (F0 m (pc + 3) ls (v :: rest))) : W p l e R s m as below meth c H locs cells slots Q (F0 m pc ls (.ref (ad k) :: rest)) :=
  va_get X.1.1 X.1.2.1 X.1.2.2.2.2 hin X.1.2.2.2.1 X.2.1 hP k (by rw [wd_at hk, hV]) hc j hj (X.1.2.2.2.2 _ hlink) (fun _ h => h) hv hdg kk
theorem r_put (X : WX p s m as c cc nL own dd t) (hi : inj N ad) (hP : HP dd N ad V H) (hS : va_S (dm N ad H0.size) H0 H locs) {k ci : Nat} {C : String} {T : u_T} {n : Nat} (hc : vwCl[ci]? = some (C, T, n)) (hin : ∀ w ∈ u_ws C T n, w ∈ GW)
    (ty0 : Nat → FieldType) (hty : ∀ k, k < n → parseFieldDescriptor (T k).2.2.1 = some (ty0 k)) (hnm : ∀ a, a < n → ∀ b, b < n → a ≠ b → (T a).2.1 ≠ (T b).2.1) {fs : List Value} (hk : k < N) (hV : V k = .inr (ci, fs)) (j : Nat) (hj : j < n) {index : Nat}
    (hlink : Cond.fieldLink own index (T j).1 (T j).2.1 (T j).2.2.1 ∈ GW) (hfin : (T j).2.2.2 = false) {ty : FieldType} {v : Value} (hd : parseFieldDescriptor (T j).2.2.1 = some ty) (hn : narrow ty v = v) (hfit : fits ty v = true) (hl : j < fs.length) {fs' : List Value} (hfs : fs.set j v = fs') (hdg : decode cc pc = .ok (.putfield index, 3))
    (kk : ∀ (V1 : Nat → va_E) (H1 : Heap) (locs1 : List Loc), V1 k = .inr (ci, fs') → (∀ i, i ≠ k → V1 i = V i) → HP dd N ad V1 H1 → va_S (dm N ad H0.size) H0 H1 locs1 → W p l e R s m as below meth c H1 locs1 cells slots Q (F0 m (pc + 3) ls rest)) : W p l e R s m as below meth c H locs cells slots Q (F0 m pc ls (v :: .ref (ad k) :: rest)) := by
  subst hfs
  refine va_put X.1.1 X.1.2.1 X.1.2.2.2.2 hin ty0 hty hnm X.1.2.2.2.1 X.2.1 hP (wd_D hi) hS k (by rw [wd_at hk, hV]) hc j hj (X.1.2.2.2.2 _ hlink) (fun _ h => h) hfin hd hn hfit hl hdg (fun H1 locs1 hP1 _ hS1 => ?_)
  rw [wd_set hk] at hP1
  exact kk _ H1 locs1 (va_up_self _ _ _) (fun i hi => va_up_ne _ _ hi) hP1 hS1
theorem r_ild (X : WX p s m as c cc nL own dd t) (hP : HP dd N ad V H) {k n : Nat} {f : Nat → Int32} (hk : k < N) (hV : V k = .inl (t.1, n, .inl f)) {j : Nat} (hj : j < n) (hn : n < 2 ^ 31) (hdg : decode cc pc = .ok (.iaload, 1))
    (kk : W p l e R s m as below meth c H locs cells slots Q (F0 m (pc + 1) ls (.int (f j) :: rest))) : W p l e R s m as below meth c H locs cells slots Q (F0 m pc ls (.int (nI j) :: .ref (ad k) :: rest)) := by
  refine va_iald X.1.1 X.1.2.1 X.2.1 hP k 0 (by rw [wd_at hk, hV]) rfl (vp_in_nI hj hn) hdg ?_
  rw [nI_clamp (by omega)]
  exact kk
theorem r_cld (X : WX p s m as c cc nL own dd t) (hP : HP dd N ad V H) {k n : Nat} {f : Nat → Int32} (hk : k < N) (hV : V k = .inl (t.2.1, n, .inl f)) {j : Nat} (hj : j < n) (hn : n < 2 ^ 31) (hdg : decode cc pc = .ok (.caload, 1))
    (kk : W p l e R s m as below meth c H locs cells slots Q (F0 m (pc + 1) ls (.int (f j) :: rest))) : W p l e R s m as below meth c H locs cells slots Q (F0 m pc ls (.int (nI j) :: .ref (ad k) :: rest)) := by
  refine va_cald X.1.1 X.1.2.1 X.2.1 hP k 1 (by rw [wd_at hk, hV]) rfl (vp_in_nI hj hn) hdg ?_
  rw [nI_clamp (by omega)]
  exact kk
theorem r_ist (X : WX p s m as c cc nL own dd t) (hi : inj N ad) (hP : HP dd N ad V H) (hS : va_S (dm N ad H0.size) H0 H locs) {k n : Nat} {f : Nat → Int32} (hk : k < N) (hV : V k = .inl (t.1, n, .inl f)) {j : Nat} {x : Int32} (hj : j < n) (hn : n < 2 ^ 31) (hdg : decode cc pc = .ok (.iastore, 1))
    (kk : ∀ (V1 : Nat → va_E) (H1 : Heap) (locs1 : List Loc), V1 k = .inl (t.1, n, .inl (upd f j x)) → (∀ i, i ≠ k → V1 i = V i) → HP dd N ad V1 H1 → va_S (dm N ad H0.size) H0 H1 locs1 → W p l e R s m as below meth c H1 locs1 cells slots Q (F0 m (pc + 1) ls rest)) : W p l e R s m as below meth c H locs cells slots Q (F0 m pc ls (.int x :: .int (nI j) :: .ref (ad k) :: rest)) := by
  refine va_iast X.1.1 X.1.2.1 X.2.1 hP (wd_D hi) hS k 0 (by rw [wd_at hk, hV]) rfl (vp_in_nI hj hn) hdg (fun H1 locs1 hP1 _ hS1 => ?_)
  rw [nI_clamp (by omega), wd_set hk] at hP1
  exact kk _ H1 locs1 (va_up_self _ _ _) (fun i hi => va_up_ne _ _ hi) hP1 hS1
theorem r_cst (X : WX p s m as c cc nL own dd t) (hi : inj N ad) (hP : HP dd N ad V H) (hS : va_S (dm N ad H0.size) H0 H locs) {k n : Nat} {f : Nat → Int32} (hk : k < N) (hV : V k = .inl (t.2.1, n, .inl f)) {j : Nat} {x : Int32} (hj : j < n) (hn : n < 2 ^ 31) (hdg : decode cc pc = .ok (.castore, 1))
    (kk : ∀ (V1 : Nat → va_E) (H1 : Heap) (locs1 : List Loc), V1 k = .inl (t.2.1, n, .inl (upd f j (vp_nar .char x))) → (∀ i, i ≠ k → V1 i = V i) → HP dd N ad V1 H1 → va_S (dm N ad H0.size) H0 H1 locs1 → W p l e R s m as below meth c H1 locs1 cells slots Q (F0 m (pc + 1) ls rest)) : W p l e R s m as below meth c H locs cells slots Q (F0 m pc ls (.int x :: .int (nI j) :: .ref (ad k) :: rest)) := by
  refine va_cast X.1.1 X.1.2.1 X.2.1 hP (wd_D hi) hS k 1 (by rw [wd_at hk, hV]) rfl (vp_in_nI hj hn) hdg (fun H1 locs1 hP1 _ hS1 => ?_)
  rw [nI_clamp (by omega), wd_set hk] at hP1
  exact kk _ H1 locs1 (va_up_self _ _ _) (fun i hi => va_up_ne _ _ hi) hP1 hS1
/-- a row of a grid -/
theorem r_gld (X : WX p s m as c cc nL own dd t) (hP : HP dd N ad V H) {k n : Nat} {f : Nat → Option Nat} (hk : k < N) (hV : V k = .inl (t.2.2.1, n, .inr (.inr (.inr (.inr f))))) {j a : Nat} (hj : j < n) (hn : n < 2 ^ 31) (hf : f j = some a) (hdg : decode cc pc = .ok (.aaload, 1))
    (kk : W p l e R s m as below meth c H locs cells slots Q (F0 m (pc + 1) ls (.ref a :: rest))) : W p l e R s m as below meth c H locs cells slots Q (F0 m pc ls (.int (nI j) :: .ref (ad k) :: rest)) := by
  have hcl : (nI j).toNatClampNeg = j := nI_clamp (by omega)
  have h1 : H[ad k]? = some (vp_cell t.2.2.1 (n, .inr (.inr (.inr (.inr f))))) := hP k (ad k, .inl (t.2.2.1, n, .inr (.inr (.inr (.inr f))))) (by rw [wd_at hk, hV])
  refine W.aald (v := .ref a) (ty := .array .int) X.1.1 X.1.2.1 h1 ((X.2.1.2 2 _ rfl).1 n (fun j => va_rf (f j))) rfl (fun q => by cases q) (by show ¬ (nI j < 0 ∨ (arrV _ _ _).slots.size ≤ _); rw [arrV_size]; exact vp_in_nI hj hn) (by show (arrV _ _ _).slots[_]? = _; rw [hcl, arrV_read _ _ hj, hf]; rfl) rfl rfl hdg kk
/-- an object out of an array of States -/
theorem r_qld (X : WX p s m as c cc nL own dd t) (hP : HP dd N ad V H) {k n : Nat} {f : Nat → Option Nat} (hk : k < N) (hV : V k = .inl (t.2.2.2, n, .inr (.inr (.inr (.inr f))))) {j a : Nat} (hj : j < n) (hn : n < 2 ^ 31) (hf : f j = some a) (hdg : decode cc pc = .ok (.aaload, 1))
    (kk : W p l e R s m as below meth c H locs cells slots Q (F0 m (pc + 1) ls (.ref a :: rest))) : W p l e R s m as below meth c H locs cells slots Q (F0 m pc ls (.int (nI j) :: .ref (ad k) :: rest)) := by
  refine va_aldq (C := RX4) X.1.1 X.1.2.1 X.2.1 hP k 3 (by rw [wd_at hk, hV]) rfl (vp_in_nI hj hn) hdg ?_
  rw [nI_clamp (by omega), hf]
  exact kk
theorem r_qst (X : WX p s m as c cc nL own dd t) (hi : inj N ad) (hP : HP dd N ad V H) (hS : va_S (dm N ad H0.size) H0 H locs) {k n k2 : Nat} {f : Nat → Option Nat} {vs : List Value} (hk : k < N) (hV : V k = .inl (t.2.2.2, n, .inr (.inr (.inr (.inr f))))) (hk2 : k2 < N) (hV2 : V k2 = .inr (4, vs)) {j : Nat} (hj : j < n) (hn : n < 2 ^ 31) (hdg : decode cc pc = .ok (.aastore, 1))
    (kk : ∀ (V1 : Nat → va_E) (H1 : Heap) (locs1 : List Loc), V1 k = .inl (t.2.2.2, n, .inr (.inr (.inr (.inr (va_up f j (some (ad k2))))))) → (∀ i, i ≠ k → V1 i = V i) → HP dd N ad V1 H1 → va_S (dm N ad H0.size) H0 H1 locs1 → W p l e R s m as below meth c H1 locs1 cells slots Q (F0 m (pc + 1) ls rest)) : W p l e R s m as below meth c H locs cells slots Q (F0 m pc ls (.ref (ad k2) :: .int (nI j) :: .ref (ad k) :: rest)) := by
  refine va_astq (r := (RX4, TX4, 4)) X.1.1 X.1.2.1 X.2.1 hP (wd_D hi) hS k 3 k2 4 (by rw [wd_at hk, hV]) rfl (by rw [wd_at hk2, hV2]) rfl (vp_in_nI hj hn) hdg (fun H1 locs1 hP1 _ hS1 => ?_)
  rw [nI_clamp (by omega), wd_set hk] at hP1
  exact kk _ H1 locs1 (va_up_self _ _ _) (fun i hi => va_up_ne _ _ hi) hP1 hS1
end LY
/-! calls -/
theorem GW_goodIn {y : MethodName} {b : ByteArray} {nL : Nat} {ret : Option FieldType} (h : Cond.code y b nL ret ∈ GW) : GoodIn GW (Cond.code y b nL ret :: GW) := by
  intro w hw
  have h2 : w ∈ GW := by
    rcases List.mem_cons.mp hw with rfl | h3
    · exact h
    · exact h3
  exact ⟨h2, good_of_word (List.all_eq_true.mp GW_good w h2)⟩
/-- what is known of a callee -/
def okV (y : MethodName) (b : ByteArray) (nL : Nat) (ret : Option FieldType) (n : Nat) : Prop := Cond.instanceMethod y ∈ GW ∧ Cond.selects y.cls y y ∈ GW ∧ Cond.initialized y.cls ∈ GW ∧ Cond.code y b nL ret ∈ GW ∧ y.cls ≠ "java/lang/invoke/MethodHandle" ∧ y.cls ≠ "java/lang/invoke/VarHandle" ∧ (parseMethodDescriptor y.desc).map (fun d => d.parameters.length) = some n
def okS (y : MethodName) (b : ByteArray) (nL : Nat) (ret : Option FieldType) (n : Nat) : Prop := Cond.static y ∈ GW ∧ Cond.initialized y.cls ∈ GW ∧ Cond.code y b nL ret ∈ GW ∧ y.cls ≠ "java/lang/invoke/MethodHandle" ∧ y.cls ≠ "java/lang/invoke/VarHandle" ∧ (parseMethodDescriptor y.desc).map (fun d => d.parameters.length) = some n
def rmLe (rm R : Room) (nL : Nat) : Prop := rm.frames + 1 ≤ R.frames ∧ 8 + (nL + 11) + rm.locals ≤ R.locals
section CY
variable {p : Program} {l : Launch} {e : Env} {R : Room} {s : State} {m : MethodId} {as : Array Value} {below : List Frame} {meth : Method} {c : Code} {H H0 : Heap} {locs : List Loc} {cells slots : Nat} {Q : State → Prop}
variable {cc b : ByteArray} {nL nM n pc index k ci : Nat} {own : String} {ls : Array Slot} {rest As : List Value} {dd : va_G} {t : CL4} {N : Nat} {ad : Nat → Nat} {V : Nat → va_E} {y : MethodName} {ret : Option FieldType} {rm : Room} {v : Int32} {vs : List Value} {T : u_T} {nf : Nat} {st0 : List Value}
theorem cb_of (X : WX p s m as c cc nL own dd t) (hcode : Cond.code y b nM ret ∈ GW) (hini : Cond.initialized y.cls ∈ GW) (hd : y.cls ≠ "java/lang/invoke/MethodHandle" ∧ y.cls ≠ "java/lang/invoke/VarHandle" ∧ (parseMethodDescriptor y.desc).map (fun d => d.parameters.length) = some n) (hl : Cond.methodLink own index y ∈ GW) (hrm : rm.cells = 0 ∧ rm.slots = 0) (hR : rmLe rm R nM) :
    CallB R s as own index y b nM ret (Cond.code y b nM ret :: GW) rm 0 0 n :=
  callB_of n X.1.2.2.2.2 (GW_goodIn hcode) rfl hrm.1 hrm.2 (X.1.2.2.2.2 _ hini) (X.1.2.2.2.2 _ hl) hd hR
theorem rcv_of (X : WX p s m as c cc nL own dd t) (hP : HP dd N ad V H) {C : String} (hc : vwCl[ci]? = some (C, T, nf)) (hk : k < N) (hV : V k = .inr (ci, vs)) : ∃ cellB : Cell, H[ad k]? = some cellB ∧ cellB.vm.isStatics = false ∧ s.vm.findClass C = some cellB.cls :=
  va_recv X.2.1 hP hc (by rw [wd_at hk, hV])
/-- a reader, called on an object -/
theorem r_call (X : WX p s m as c cc nL own dd t) (hP : HP dd N ad V H) (hM : RM l dd t N ad V y b nM ret rm (.ref (ad k) :: As) v) (ok : okV y b nM ret n) (hc : vwCl[ci]? = some (y.cls, T, nf)) (hk : k < N) (hV : V k = .inr (ci, vs)) (hl : Cond.methodLink own index y ∈ GW) (hrm : rm.cells = 0 ∧ rm.slots = 0) (hR : rmLe rm R nM) (hn : As.length = n) (hls : ls.size = nL) (hst : st0 = As.reverse ++ .ref (ad k) :: rest) (hW : (rest.map fun v => v.category).sum ≤ 8) (hf : cells ≤ R.cells ∧ slots ≤ R.slots) (hdg : decode cc pc = .ok (.invokevirtual index, 3))
    (kk : W p l e R s m as below meth c H locs cells slots Q (F0 m (pc + 3) ls (.int v :: rest))) : W p l e R s m as below meth c H locs cells slots Q (F0 m pc ls st0) := by
  obtain ⟨o1, o2, o3, o4, o5⟩ := ok
  refine vp_callSi (rest := rest) (W.runV (b := ad k) (As := As) (rest := rest) X.1 hM (C := y.cls) ⟨cb_of X o4 o3 o5 hl hrm hR, X.1.2.2.2.2 _ o1, X.1.2.2.2.2 _ o2⟩ ⟨fun a U g mk h => ⟨h.1, h.2.1.calling, h.2.2⟩, rcv_of X hP hc hk hV, fun U hU hW => ⟨rfl, X.2.warm hW, by rw [hU]; exact hP⟩⟩ rfl hn hls hst (lv_room hW) hdg hf) (fun r hr => ?_)
  rw [hr]
  exact kk
/-- a reader that is static -/
theorem r_callS (X : WX p s m as c cc nL own dd t) (hP : HP dd N ad V H) (hM : RM l dd t N ad V y b nM ret rm As v) (ok : okS y b nM ret n) (hl : Cond.methodLink own index y ∈ GW) (hrm : rm.cells = 0 ∧ rm.slots = 0) (hR : rmLe rm R nM) (hn : As.length = n) (hls : ls.size = nL) (hst : st0 = As.reverse ++ rest) (hW : (rest.map fun v => v.category).sum ≤ 8) (hf : cells ≤ R.cells ∧ slots ≤ R.slots) (hdg : decode cc pc = .ok (.invokestatic index, 3))
    (kk : W p l e R s m as below meth c H locs cells slots Q (F0 m (pc + 3) ls (.int v :: rest))) : W p l e R s m as below meth c H locs cells slots Q (F0 m pc ls st0) := by
  obtain ⟨o1, o3, o4, o5⟩ := ok
  refine vp_callSi (rest := rest) (W.runS (As := As) (rest := rest) X.1 hM ⟨cb_of X o4 o3 o5 hl hrm hR, X.1.2.2.2.2 _ o1⟩ ⟨fun a U g mk h => ⟨h.1, h.2.1.calling, h.2.2⟩, fun U hU hW => ⟨rfl, X.2.warm hW, by rw [hU]; exact hP⟩⟩ rfl hn hls hst (lv_room hW) hdg hf) (fun r hr => ?_)
  rw [hr]
  exact kk
theorem va_run_si {post : Int32 → Prop} {a : Array Value} (hr : va_Run p l e R s m as below meth c H locs cells slots 0 0 (F0 m pc ls st0) rest (vp_Si post a) (fun _ => False))
    (kk : ∀ r : Int32, post r → W p l e R s m as below meth c H locs cells slots Q (F0 m (pc + 3) ls (.int r :: rest))) : W p l e R s m as below meth c H locs cells slots Q (F0 m pc ls st0) := by
  intro T hT X
  obtain ⟨v, st₀, t, T', L, h0, X', hL, e1, e2, ⟨r, hv, hp, hh⟩, st⟩ := hr T hT X
  cases hv
  obtain ⟨t2, a1, b1⟩ := kk r hp T' (by rw [e1, hh, h0]) (Stand.forget X' (fun q h => (hL q h).elim))
  exact ⟨t2, st t2 a1, b1⟩
/-- isIn, a private static of the outer class -/
theorem r_callN (X : WX p s m as c cc nL own dd t) (hP : HP dd N ad V H) (hM : RM l dd t N ad V y b nM ret rm As v) (ok : okS y b nM ret n) {host : String} (hl : va_Nw (.methodLinkNest own index y host) s) (hrm : rm.cells = 0 ∧ rm.slots = 0) (hR : rmLe rm R nM) (hn : As.length = n) (hls : ls.size = nL) (hst : st0 = As.reverse ++ rest) (hW : (rest.map fun v => v.category).sum ≤ 8) (hf : cells ≤ R.cells ∧ slots ≤ R.slots) (hdg : decode cc pc = .ok (.invokestatic index, 3))
    (kk : W p l e R s m as below meth c H locs cells slots Q (F0 m (pc + 3) ls (.int v :: rest))) : W p l e R s m as below meth c H locs cells slots Q (F0 m pc ls st0) := by
  obtain ⟨o1, o3, o4, o5⟩ := ok
  refine va_run_si (rest := rest) (va_runSN (As := As) (rest := rest) X.1 hM ⟨va_cnB n X.1.2.2.2.2 (GW_goodIn o4) rfl hrm.1 hrm.2 hl (X.1.2.2.2.2 _ o3) o5 hR, X.1.2.2.2.2 _ o1, trivial⟩ ⟨fun a U g mk h => ⟨h.1, h.2.1.calling, h.2.2⟩, fun U hU hW => ⟨rfl, X.2.warm hW, by rw [hU]; exact hP⟩⟩ rfl hn hls hst (lv_room hW) hdg hf) (fun r hr => ?_)
  rw [hr]
  exact kk
theorem dm_call {q : Nat} (hS : va_S (dm N ad H0.size) H0 H locs) (h : dm N ad H.size q) : dm N ad H0.size q := dm_mono hS.1 h
/-- a writer with an answer, called on an object -/
theorem r_callM (X : WX p s m as c cc nL own dd t) (hP : HP dd N ad V H) (hS : va_S (dm N ad H0.size) H0 H locs) {post : Int32 → (Nat → va_E) → Prop} (hM : MM l dd t N ad V y b nM ret rm (.ref (ad k) :: As) post) (ok : okV y b nM ret n) (hc : vwCl[ci]? = some (y.cls, T, nf)) (hk : k < N) (hV : V k = .inr (ci, vs)) (hl : Cond.methodLink own index y ∈ GW) (hrm : rm.cells = 0 ∧ rm.slots = 0) (hR : rmLe rm R nM) (hn : As.length = n) (hls : ls.size = nL) (hst : st0 = As.reverse ++ .ref (ad k) :: rest) (hW : (rest.map fun v => v.category).sum ≤ 8) (hf : cells ≤ R.cells ∧ slots ≤ R.slots) (hdg : decode cc pc = .ok (.invokevirtual index, 3))
    (kk : ∀ (r : Int32) (V1 : Nat → va_E) (H1 : Heap) (locs1 : List Loc), post r V1 → HP dd N ad V1 H1 → va_S (dm N ad H0.size) H0 H1 locs1 → W p l e R s m as below meth c H1 locs1 cells slots Q (F0 m (pc + 3) ls (.int r :: rest))) : W p l e R s m as below meth c H locs cells slots Q (F0 m pc ls st0) := by
  obtain ⟨o1, o2, o3, o4, o5⟩ := ok
  refine va_calli (rest := rest) (va_runV (b := ad k) (As := As) (rest := rest) X.1 (hM H.size) (C := y.cls) ⟨cb_of X o4 o3 o5 hl hrm hR, X.1.2.2.2.2 _ o1, X.1.2.2.2.2 _ o2⟩ ⟨fun a U g mk h => ⟨h.1, h.2.1, h.2.2.1.calling, h.2.2.2⟩, rcv_of X hP hc hk hV, fun U hU hW => ⟨rfl, by rw [hU], X.2.warm hW, by rw [hU]; exact hP⟩⟩ rfl hn hls hst (lv_room hW) hdg hf) hS (fun q _ h => dm_call hS h) (fun q h => dm_call hS h) (fun r V1 t1 H1 locs1 e1 _ hp hB _ _ hS1 => ?_)
  rw [e1] at hB
  exact kk r V1 H1 locs1 hp hB hS1
/-- a writer without an answer -/
theorem r_callW (X : WX p s m as c cc nL own dd t) (hP : HP dd N ad V H) (hS : va_S (dm N ad H0.size) H0 H locs) {post : (Nat → va_E) → Prop} (hM : MV l dd t N ad V y b nM rm (.ref (ad k) :: As) post) (ok : okV y b nM none n) (hc : vwCl[ci]? = some (y.cls, T, nf)) (hk : k < N) (hV : V k = .inr (ci, vs)) (hl : Cond.methodLink own index y ∈ GW) (hrm : rm.cells = 0 ∧ rm.slots = 0) (hR : rmLe rm R nM) (hn : As.length = n) (hls : ls.size = nL) (hst : st0 = As.reverse ++ .ref (ad k) :: rest) (hW : (rest.map fun v => v.category).sum ≤ 8) (hf : cells ≤ R.cells ∧ slots ≤ R.slots) (hdg : decode cc pc = .ok (.invokevirtual index, 3))
    (kk : ∀ (V1 : Nat → va_E) (H1 : Heap) (locs1 : List Loc), post V1 → HP dd N ad V1 H1 → va_S (dm N ad H0.size) H0 H1 locs1 → W p l e R s m as below meth c H1 locs1 cells slots Q (F0 m (pc + 3) ls rest)) : W p l e R s m as below meth c H locs cells slots Q (F0 m pc ls st0) := by
  obtain ⟨o1, o2, o3, o4, o5⟩ := ok
  refine va_callv (rest := rest) (va_runV (b := ad k) (As := As) (rest := rest) X.1 (hM H.size) (C := y.cls) ⟨cb_of X o4 o3 o5 hl hrm hR, X.1.2.2.2.2 _ o1, X.1.2.2.2.2 _ o2⟩ ⟨fun a U g mk h => ⟨h.1, h.2.1, h.2.2.1.calling, h.2.2.2⟩, rcv_of X hP hc hk hV, fun U hU hW => ⟨rfl, by rw [hU], X.2.warm hW, by rw [hU]; exact hP⟩⟩ rfl hn hls hst (lv_room hW) hdg hf) hS (fun q _ h => dm_call hS h) (fun q h => dm_call hS h) (fun V1 t1 H1 locs1 e1 _ hp hB _ _ hS1 => ?_)
  rw [e1] at hB
  exact kk V1 H1 locs1 hp hB hS1
end CY
/-! contracts out of walks -/
def narOk (ret : Option FieldType) (v : Int32) : Prop := ∃ ty, ret = some ty ∧ narrow ty (.int v) = .int v
theorem narI (v : Int32) : narOk (some .int) v := ⟨.int, rfl, rfl⟩
def b01 (q : Bool) : Int32 := if q = true then 1 else 0
theorem narB (q : Bool) : narOk (some .boolean) (b01 q) := ⟨.boolean, rfl, by cases q <;> rfl⟩
section MK
variable {l : Launch} {dd : va_G} {t : CL4} {N : Nat} {ad : Nat → Nat} {V : Nat → va_E} {y : MethodName} {b : ByteArray} {nL : Nat} {ret : Option FieldType} {rm : Room} {args : List Value}
theorem RM.of {v : Int32} (hy : plainName y.cls = true) (hrm : rm.cells = 0 ∧ rm.slots = 0) (hlen : (lg_sl args).length ≤ nL) (hv : narOk ret v)
    (w : ∀ (p : Program) (e : Env) (s : State) (m : MethodId) (as : Array Value) (below : List Frame) (meth : Method) (c : Code) (Q : State → Prop), WX p s m as c b nL y.cls dd t → ∀ (H : Heap), HP dd N ad V H → ∀ ls : Array Slot, lv_has ls nL (lv_args 0 args) →
      (∀ (pc : Nat) (ls : Array Slot) (r : Int32), r = v → decode b pc = .ok (.ireturn, 1) → W p l e rm s m as below meth c H [] 0 0 Q (F0 m pc ls [.int r])) → W p l e rm s m as below meth c H [] 0 0 Q (F0 m 0 ls [])) :
    RM l dd t N ad V y b nL ret rm args v := by
  refine Met.ofW (cc := b) (maxL := nL) (ret := ret) hy rfl ?_
  intro p e s m as below meth c s₁ B hml hv0
  obtain ⟨rfl, hC, hP⟩ := hv0
  have hts := atoms_spec (ws := Cond.code y b nL ret :: GW) B.pre
  have hX : WX p s m args.toArray c b nL y.cls dd t := ⟨⟨B.exec, B.bytes, hml, findClass_of_methodNamed B.named, fun w hw => hts w (List.mem_cons_of_mem _ hw)⟩, hC⟩
  have hl := lv_entry args (n := nL) hlen
  rw [lg_entry_eq]
  obtain ⟨ty, hret, hn⟩ := hv
  have hlocks := B.notSynchronized
  refine w p e s m args.toArray below meth c _ hX s.heap hP _ hl (fun pc ls r hr hdg => ?_)
  subst hr
  exact W.zret (ty := ty) B.exec B.bytes (by rw [B.returns, hret]) hn (fun t ht hW => ⟨r, rfl, rfl, ht⟩) (fun q hq => by cases hq) hdg
theorem MM.of {post : Int32 → (Nat → va_E) → Prop} (hy : plainName y.cls = true) (hrm : rm.cells = 0 ∧ rm.slots = 0) (hlen : (lg_sl args).length ≤ nL) {ty : FieldType} (hret : ret = some ty)
    (w : ∀ (p : Program) (e : Env) (s : State) (m : MethodId) (as : Array Value) (below : List Frame) (meth : Method) (c : Code) (Q : State → Prop), WX p s m as c b nL y.cls dd t → ∀ (H : Heap), HP dd N ad V H → va_S (dm N ad H.size) H H [] → ∀ ls : Array Slot, lv_has ls nL (lv_args 0 args) →
      (∀ (pc : Nat) (ls : Array Slot) (r : Int32) (V1 : Nat → va_E) (H1 : Heap) (locs1 : List Loc), HP dd N ad V1 H1 → va_S (dm N ad H.size) H H1 locs1 → narrow ty (.int r) = .int r → post r V1 → decode b pc = .ok (.ireturn, 1) → W p l e rm s m as below meth c H1 locs1 0 0 Q (F0 m pc ls [.int r])) → W p l e rm s m as below meth c H [] 0 0 Q (F0 m 0 ls [])) :
    MM l dd t N ad V y b nL ret rm args post := by
  intro sz
  refine Met.ofW (cc := b) (maxL := nL) (ret := ret) hy rfl ?_
  intro p e s m as below meth c s₁ B hml hv0
  obtain ⟨rfl, hsz, hC, hP⟩ := hv0
  subst hsz
  have hts := atoms_spec (ws := Cond.code y b nL ret :: GW) B.pre
  have hX : WX p s m args.toArray c b nL y.cls dd t := ⟨⟨B.exec, B.bytes, hml, findClass_of_methodNamed B.named, fun w hw => hts w (List.mem_cons_of_mem _ hw)⟩, hC⟩
  have hl := lv_entry args (n := nL) hlen
  rw [lg_entry_eq]
  have hlocks := B.notSynchronized
  refine w p e s m args.toArray below meth c _ hX s.heap hP va_S.rf _ hl (fun pc ls r V1 H1 locs1 hP1 hS1 hn hp hdg => ?_)
  exact W.zret (ty := ty) B.exec B.bytes (by rw [B.returns, hret]) hn (fun t ht hW => ⟨⟨r, V1, rfl, hp, by show HP dd N ad V1 t.heap; rw [ht]; exact hP1⟩, hS1.F ht⟩) hS1.2.2 hdg
theorem MV.of {post : (Nat → va_E) → Prop} (hy : plainName y.cls = true) (hrm : rm.cells = 0 ∧ rm.slots = 0) (hlen : (lg_sl args).length ≤ nL)
    (w : ∀ (p : Program) (e : Env) (s : State) (m : MethodId) (as : Array Value) (below : List Frame) (meth : Method) (c : Code) (Q : State → Prop), WX p s m as c b nL y.cls dd t → ∀ (H : Heap), HP dd N ad V H → va_S (dm N ad H.size) H H [] → ∀ ls : Array Slot, lv_has ls nL (lv_args 0 args) →
      (∀ (pc : Nat) (ls : Array Slot) (V1 : Nat → va_E) (H1 : Heap) (locs1 : List Loc), HP dd N ad V1 H1 → va_S (dm N ad H.size) H H1 locs1 → post V1 → decode b pc = .ok (.return_, 1) → W p l e rm s m as below meth c H1 locs1 0 0 Q (F0 m pc ls [])) → W p l e rm s m as below meth c H [] 0 0 Q (F0 m 0 ls [])) :
    MV l dd t N ad V y b nL rm args post := by
  intro sz
  refine Met.ofW (cc := b) (maxL := nL) (ret := none) hy rfl ?_
  intro p e s m as below meth c s₁ B hml hv0
  obtain ⟨rfl, hsz, hC, hP⟩ := hv0
  subst hsz
  have hts := atoms_spec (ws := Cond.code y b nL none :: GW) B.pre
  have hX : WX p s m args.toArray c b nL y.cls dd t := ⟨⟨B.exec, B.bytes, hml, findClass_of_methodNamed B.named, fun w hw => hts w (List.mem_cons_of_mem _ hw)⟩, hC⟩
  have hl := lv_entry args (n := nL) hlen
  rw [lg_entry_eq]
  have hlocks := B.notSynchronized
  refine w p e s m args.toArray below meth c _ hX s.heap hP va_S.rf _ hl (fun pc ls V1 H1 locs1 hP1 hS1 hp hdg => ?_)
  exact W.vret B.exec B.bytes B.returns (fun t ht hW => ⟨⟨V1, rfl, hp, by show HP dd N ad V1 t.heap; rw [ht]; exact hP1⟩, hS1.F ht⟩) hS1.2.2 hdg
end MK
