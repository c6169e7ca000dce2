/-! rows for constructors: the cells come one behind the other: cell k lies at z + k -/
def adz (z : Nat) : Nat → Nat := fun k => z + k
def Az (z : Nat) : Nat → Prop := fun q => z ≤ q
theorem inj_z {z N : Nat} : inj N (adz z) := fun i j _ _ h => Nat.add_left_cancel h
theorem wd_Dz {z N : Nat} {V : Nat → va_E} : va_D (Az z) (wd N (adz z) V) := by
  refine ⟨fun i j p q h1 h2 h3 => ?_, fun k q h => ?_⟩
  · obtain ⟨a1, a2⟩ := wd_of h1
    obtain ⟨b1, b2⟩ := wd_of h2
    rw [a2, b2] at h3
    exact inj_z i j a1 b1 h3
  · obtain ⟨a1, a2⟩ := wd_of h
    rw [a2]
    exact Nat.le_add_right z k
theorem az_dm {z N N0 : Nat} (h : N0 ≤ N) : dm N (adz z) (z + N0) = Az z := by
  funext q
  apply propext
  constructor
  · rintro (⟨k, hk, rfl⟩ | h1)
    · exact Nat.le_add_right z k
    · exact Nat.le_trans (Nat.le_add_right z N0) h1
  · intro h1
    rcases Nat.lt_or_ge q (z + N0) with h2 | h2
    · exact Or.inl ⟨q - z, by have : z ≤ q := h1; omega, by have h3 : z ≤ q := h1; show q = z + (q - z); omega⟩
    · exact Or.inr h2
theorem toD {z N N0 : Nat} {H0 H : Heap} {locs : List Loc} (hz : H0.size = z + N0) (h : N0 ≤ N) (hS : va_S (Az z) H0 H locs) : va_S (dm N (adz z) H0.size) H0 H locs := by rw [hz, az_dm h]; exact hS
theorem ofD {z N N0 : Nat} {H0 H : Heap} {locs : List Loc} (hz : H0.size = z + N0) (h : N0 ≤ N) (hS : va_S (dm N (adz z) H0.size) H0 H locs) : va_S (Az z) H0 H locs := by rw [hz, az_dm h] at hS; exact hS
def AG (U : State) : Prop := (Cond.arrayOver (.array .int)).before #[] U = true
theorem AG.spec {U : State} (h : AG U) : ∃ comp c k, U.vm.findClass (FieldType.array .int).toString = some comp ∧ (U.vm.classes.findIdx? fun (x : Class) => match x.kind with | .array component _ => component == comp | _ => false) = some c ∧ U.vm.classes[c]? = some k ∧ k.kind = .array comp (.array .int) ∧ U.vm.findClass ("[" ++ (FieldType.array .int).toString) = some c := by
  unfold AG Cond.before at h
  simp only [Cond.holds, Cond.value, beq_iff_eq] at h
  cases hc : U.vm.findClass (FieldType.array .int).toString with
  | none => simp [hc] at h
  | some comp =>
    simp only [hc, Option.bind_some, Option.bind_eq_some_iff, Option.map_eq_some_iff] at h
    obtain ⟨c, hi, k, hk, hb⟩ := h
    obtain ⟨hlt, hp, -⟩ := Array.findIdx?_eq_some_iff_getElem.mp hi
    have hkk : U.vm.classes[c] = k := (Array.getElem?_eq_some_iff.mp hk).2
    rw [hkk] at hp
    cases hkind : k.kind with
    | array component ty =>
      rw [hkind] at hb hp
      simp at hb hp
      exact ⟨comp, c, k, rfl, hi, hk, by rw [hkind, hp, hb.1], hb.2⟩
    | _ => rw [hkind] at hb; simp at hb
theorem AG.moved {u U : State} (hvm : u.vm.Alike U.vm) (h : AG u) : AG U := by
  obtain ⟨comp, c, k, h1, h2, h3, h4, h5⟩ := h.spec
  obtain ⟨k', hk', he⟩ := hvm.2.2 _ _ h3
  have hi : (U.vm.classes.findIdx? fun (x : Class) => match x.kind with | .array component _ => component == comp | _ => false) = some c := by
    have e1 := va_idx_bare U.vm comp
    have e2 := va_idx_bare u.vm comp
    have e3 : u.vm.bare = U.vm.bare := by first | exact hvm.bare_eq | exact hvm.bare_eq.symm
    rw [e3] at e2
    exact (e1.symm.trans e2).trans h2
  have hkind : k'.kind = .array comp (.array .int) := by rw [he]; exact h4
  have f1 : U.vm.findClass (FieldType.array .int).toString = some comp := by rw [hvm.findClass]; exact h1
  have f2 : U.vm.findClass ("[" ++ (FieldType.array .int).toString) = some c := by rw [hvm.findClass]; exact h5
  unfold AG Cond.before Cond.holds
  simp only [Cond.value]
  rw [f1, Option.bind_some]
  refine (congrArg (fun o : Option Nat => (o.bind (fun c => (U.vm.classes[c]?).map fun (k : Class) => match k.kind with | .array _ ty => decide (ty = FieldType.array .int) && decide (U.vm.findClass ("[" ++ (FieldType.array .int).toString) = some c) | _ => false) == some true)) hi).trans ?_
  simp [hk', hkind, f2]
theorem AG.use {A : Array Value} {U : State} (h : AG U) : (Cond.arrayOver (.array .int)).before A U = true := h
def Cx2 (dd : va_G) (t : CL4) (U : State) : Prop := Cx dd t U ∧ va_AO RX4 U ∧ AG U
theorem Cx2.warm {dd : va_G} {t : CL4} {s U : State} (hW : s.WarmedH U.vm) (h : Cx2 dd t s) : Cx2 dd t U := ⟨h.1.warm hW, va_AO.moved hW.alike h.2.1, h.2.2.moved hW.alike⟩
theorem Cx2.calling {dd : va_G} {t : CL4} {U : State} {g : JFrame} {mk : MethodId} {a : Array Value} (h : Cx2 dd t U) : Cx2 dd t (U.calling g mk a) :=
  ⟨h.1.calling, va_AO.moved (u := U) (U := U.calling g mk a) (Vm.Alike.refl U.vm) h.2.1, AG.moved (u := U) (U := U.calling g mk a) (Vm.Alike.refl U.vm) h.2.2⟩
def MI (l : Launch) (dd : va_G) (t : CL4) (z b : Nat) (V : Nat → va_E) (y : MethodName) (bts : ByteArray) (nL : Nat) (rm : Room) (w sl : Nat) (post : (Nat → va_E) → Prop) : Prop :=
  Met l y (Cond.code y bts nL none :: GW) rm (va_Pc [.ref (adz z b)] (fun U => U.heap.size = z + (b + 1) ∧ Cx2 dd t U ∧ HP dd (b + 1) (adz z) V U.heap)) (va_Qv post (fun V' t' => t'.heap.size = z + (b + 1 + w) ∧ HP dd (b + 1 + w) (adz z) V' t'.heap) (Az z)) w sl (Az z)
theorem wd_grow {N z : Nat} {V : Nat → va_E} {e : va_E} {dd : va_G} {H H1 : Heap} (hP : HP dd N (adz z) V H) (hz : H.size = z + N) (ho : ∀ q, q < z + N → H1[q]? = H[q]?) (hn : va_at dd vwCl (adz z N, e) H1) : HP dd (N + 1) (adz z) (va_up V N e) H1 := by
  intro k q hq
  obtain ⟨hk, rfl⟩ := wd_of hq
  by_cases h : k = N
  · subst h
    rw [va_up_self]
    exact hn
  · rw [va_up_ne _ _ h]
    have hk2 : k < N := by omega
    exact (hP k _ (wd_at hk2)).kept (ho (adz z k) (by show z + k < z + N; omega))
theorem grow_S {z N : Nat} {H0 H H1 : Heap} {locs : List Loc} (hS : va_S (Az z) H0 H locs) (hz : H.size = z + N) (h1 : z + N ≤ H1.size) (ho : ∀ q, q < z + N → H1[q]? = H[q]?) : va_S (Az z) H0 H1 locs :=
  ⟨Nat.le_trans hS.1 (by omega), fun x h2 h3 => (ho x (by have := hS.1; omega)).trans (hS.2.1 x h2 h3), hS.2.2⟩
section NW
variable {p : Program} {l : Launch} {e : Env} {R : Room} {s : State} {m : MethodId} {as : Array Value} {below : List Frame} {meth : Method} {c : Code} {H H0 : Heap} {locs : List Loc} {cells slots : Nat} {Q : State → Prop}
variable {cc : ByteArray} {nL pc : Nat} {own : String} {ls : Array Slot} {rest : List Value} {dd : va_G} {t : CL4} {N z : Nat} {V : Nat → va_E}
theorem c_new (X : WX p s m as c cc nL own dd t) (hP : HP dd N (adz z) V H) (hz : H.size = z + N) (hS : va_S (Az z) H0 H locs) {ci : Nat} {C : String} {T : u_T} {n : Nat} (hc : vwCl[ci]? = some (C, T, n)) (hin : ∀ w ∈ u_ws C T n, w ∈ GW) (ty : Nat → FieldType) (hty : ∀ k, k < n → parseFieldDescriptor (T k).2.2.1 = some (ty k)) {index : Nat}
    (hl : Cond.classLink own index C ∈ GW) (hins : Cond.instantiable C n ∈ GW) (hini : Cond.initialized C ∈ GW) {fs : List Value} (hfs : ∀ j, j < n → defaultValue (ty j) = vp_V fs j) (hcells : cells + 1 ≤ R.cells) (hslots : slots + n ≤ R.slots) (hdg : decode cc pc = .ok (.new index, 3))
    (kk : ∀ (V1 : Nat → va_E) (H1 : Heap), V1 N = .inr (ci, fs) → (∀ i, i ≠ N → V1 i = V i) → HP dd (N + 1) (adz z) V1 H1 → H1.size = z + (N + 1) → va_S (Az z) H0 H1 locs → W p l e R s m as below meth c H1 locs (cells + 1) (slots + n) Q (F0 m (pc + 3) ls (.ref (adz z N) :: rest))) : W p l e R s m as below meth c H locs cells slots Q (F0 m pc ls rest) := by
  have hKn := X.2.1.1 ci _ hc
  refine W.newcK (h := adz z N) X.1.1 X.1.2.1 X.1.2.2.2.1 (X.1.2.2.2.2 _ hl) (X.1.2.2.2.2 _ hins) (X.1.2.2.2.2 _ hini) rfl hdg hcells hslots hKn.2.1 hz fun H1 kC hkC e1 z1 o1 => ?_
  have z2 : H1.size = z + (N + 1) := z1
  exact kk _ H1 (va_up_self _ _ _) (fun i hi => va_up_ne _ _ hi) (wd_grow hP hz o1 ⟨_, hc, (u_born ty X.1.2.2.2.2 hin hKn hkC e1 hty).to hfs⟩) z2 (grow_S hS hz (by omega) o1)
theorem c_newa (X : WX p s m as c cc nL own dd t) (hP : HP dd N (adz z) V H) (hz : H.size = z + N) (hS : va_S (Az z) H0 H locs) {n : Int32} {n' : Nat} (hl : Cond.arrayClass .int ∈ GW) (hn : ¬ n < 0) (hN : n.toNatClampNeg = n') (hbytes : n' * 4 ≤ 536870912) (hcells : cells + 1 ≤ R.cells) (hslots : slots + n' ≤ R.slots) (hdg : decode cc pc = .ok (.newarray .int, 2))
    (kk : ∀ (V1 : Nat → va_E) (H1 : Heap), arr t.1 n' (fun _ => 0) (V1 N) → (∀ i, i ≠ N → V1 i = V i) → HP dd (N + 1) (adz z) V1 H1 → H1.size = z + (N + 1) → va_S (Az z) H0 H1 locs → W p l e R s m as below meth c H1 locs (cells + 1) (slots + n') Q (F0 m (pc + 2) ls (.ref (adz z N) :: rest))) : W p l e R s m as below meth c H locs cells slots Q (F0 m pc ls (.int n :: rest)) := by
  refine va_newaK (h := adz z N) (atype := .int) X.1.1 X.1.2.1 (X.1.2.2.2.2 _ hl) rfl hdg rfl hn hN hbytes hcells hslots hz fun H1 cA e1 z1 o1 hAr hNm => ?_
  have hcA : cA = t.1 := Option.some.inj (hNm.symm.trans (X.2.1.2 0 _ rfl).2)
  subst hcA
  have z2 : H1.size = z + (N + 1) := z1
  refine kk (va_up V N (.inl (t.1, n', .inl (fun _ => 0)))) H1 ⟨fun _ => 0, va_up_self _ _ _, fun _ _ => rfl⟩ (fun i hi => va_up_ne _ _ hi) (wd_grow hP hz o1 ?_) z2 (grow_S hS hz (by omega) o1)
  show H1[adz z N]? = some (vp_cell _ _)
  rw [vp_cell_i]
  exact e1
theorem c_newc (X : WX p s m as c cc nL own dd t) (hP : HP dd N (adz z) V H) (hz : H.size = z + N) (hS : va_S (Az z) H0 H locs) {n : Int32} {n' : Nat} (hl : Cond.arrayClass .char ∈ GW) (hn : ¬ n < 0) (hN : n.toNatClampNeg = n') (hbytes : n' * 2 ≤ 536870912) (hcells : cells + 1 ≤ R.cells) (hslots : slots + n' ≤ R.slots) (hdg : decode cc pc = .ok (.newarray .char, 2))
    (kk : ∀ (V1 : Nat → va_E) (H1 : Heap), arr t.2.1 n' (fun _ => 0) (V1 N) → (∀ i, i ≠ N → V1 i = V i) → HP dd (N + 1) (adz z) V1 H1 → H1.size = z + (N + 1) → va_S (Az z) H0 H1 locs → W p l e R s m as below meth c H1 locs (cells + 1) (slots + n') Q (F0 m (pc + 2) ls (.ref (adz z N) :: rest))) : W p l e R s m as below meth c H locs cells slots Q (F0 m pc ls (.int n :: rest)) := by
  refine va_newaK (h := adz z N) (atype := .char) X.1.1 X.1.2.1 (X.1.2.2.2.2 _ hl) rfl hdg rfl hn hN hbytes hcells hslots hz fun H1 cA e1 z1 o1 hAr hNm => ?_
  have hcA : cA = t.2.1 := Option.some.inj (hNm.symm.trans (X.2.1.2 1 _ rfl).2)
  subst hcA
  have z2 : H1.size = z + (N + 1) := z1
  refine kk (va_up V N (.inl (t.2.1, n', .inl (fun _ => 0)))) H1 ⟨fun _ => 0, va_up_self _ _ _, fun _ _ => rfl⟩ (fun i hi => va_up_ne _ _ hi) (wd_grow hP hz o1 ?_) z2 (grow_S hS hz (by omega) o1)
  show H1[adz z N]? = some (vp_cell _ _)
  rw [vp_cell_i]
  exact e1
theorem c_newq (X : WX p s m as c cc nL own dd t) (hC : Cx2 dd t s) (hP : HP dd N (adz z) V H) (hz : H.size = z + N) (hS : va_S (Az z) H0 H locs) {index : Nat} (hl : Cond.classLink own index RX4 ∈ GW) (hcells : cells + 1 ≤ R.cells) (hslots : slots + 4 ≤ R.slots) (hdg : decode cc pc = .ok (.anewarray index, 3))
    (kk : ∀ (V1 : Nat → va_E) (H1 : Heap), V1 N = .inl (t.2.2.2, 4, .inr (.inr (.inr (.inr (fun _ => none))))) → (∀ i, i ≠ N → V1 i = V i) → HP dd (N + 1) (adz z) V1 H1 → H1.size = z + (N + 1) → va_S (Az z) H0 H1 locs → W p l e R s m as below meth c H1 locs (cells + 1) (slots + 4) Q (F0 m (pc + 3) ls (.ref (adz z N) :: rest))) : W p l e R s m as below meth c H locs cells slots Q (F0 m pc ls (.int (nI 4) :: rest)) := by
  refine W.anew (C := RX4) X.1.1 X.1.2.1 X.1.2.2.2.1 (X.1.2.2.2.2 _ hl) (va_AO.use hC.2.1) rfl hdg rfl (by decide) (by decide) hcells (by show slots + 4 ≤ _; exact hslots) fun cA kA comp f1 f2 f3 f4 => ?_
  have hcA : cA = t.2.2.2 := by
    obtain ⟨_, _, _, _, _, g4⟩ := (X.2.1.2 3 _ rfl).2
    exact Option.some.inj (f1.symm.trans g4)
  subst hcA
  have e4 : (nI 4).toNatClampNeg = 4 := by decide
  rw [e4]
  generalize hH1 : H.push ({ cls := t.2.2.2, slots := Array.replicate 4 .null, vm := .none } : Cell) = H1
  have z1 : H1.size = z + (N + 1) := by rw [← hH1, Array.size_push, hz]; rfl
  have e1 : H1[H.size]? = some (arrV t.2.2.2 4 (fun _ => .null)) := by rw [← hH1, Array.getElem?_push_size, ← arrV_new]
  have o1 : ∀ q : Nat, q < z + N → H1[q]? = H[q]? := fun q hq => by rw [← hH1, Array.getElem?_push, if_neg (by omega)]
  have hzz : H.size = adz z N := hz
  rw [hzz] at e1 ⊢
  refine kk (va_up V N (.inl (t.2.2.2, 4, .inr (.inr (.inr (.inr (fun _ => none))))))) H1 (va_up_self _ _ _) (fun i hi => va_up_ne _ _ hi) (wd_grow hP hz o1 ?_) z1 (grow_S hS hz (by omega) o1)
  show H1[adz z N]? = some (vp_cell _ _)
  rw [vp_cell_q]
  exact e1
/-- a final field, in its class's constructor -/
theorem r_putF (X : WX p s m as c cc nL own dd t) (hP : HP dd N (adz z) V H) (hS : va_S (Az z) H0 H locs) {k ci : Nat} {C : String} {T : u_T} {n : Nat} (hc : vwCl[ci]? = some (C, T, n)) (hin : ∀ w ∈ u_ws C T n, w ∈ GW)
    (ty0 : Nat → FieldType) (hty : ∀ k, k < n → parseFieldDescriptor (T k).2.2.1 = some (ty0 k)) (hnm : ∀ a, a < n → ∀ b, b < n → a ≠ b → (T a).2.1 ≠ (T b).2.1) {fs : List Value} (hk : k < N) (hV : V k = .inr (ci, fs)) (j : Nat) (hj : j < n) {index : Nat}
    (hlink : Cond.fieldLink own index (T j).1 (T j).2.1 (T j).2.2.1 ∈ GW) (hfin : (T j).2.2.2 = true) (hm : meth.name = "<init>") (hdecl : (T j).1 = own) {ty : FieldType} {v : Value} (hd : parseFieldDescriptor (T j).2.2.1 = some ty) (hn : narrow ty v = v) (hfit : fits ty v = true) (hl : j < fs.length) {fs' : List Value} (hfs : fs.set j v = fs') (hdg : decode cc pc = .ok (.putfield index, 3))
    (kk : ∀ (V1 : Nat → va_E) (H1 : Heap) (locs1 : List Loc), V1 k = .inr (ci, fs') → (∀ i, i ≠ k → V1 i = V i) → HP dd N (adz z) V1 H1 → H1.size = H.size → va_S (Az z) H0 H1 locs1 → W p l e R s m as below meth c H1 locs1 cells slots Q (F0 m (pc + 3) ls rest)) : W p l e R s m as below meth c H locs cells slots Q (F0 m pc ls (v :: .ref (adz z k) :: rest)) := by
  subst hfs
  have hap := va_apart (own := own) X.1.2.2.2.2 hin ty0 hty hnm X.2.1 hc
  have he : (wd N (adz z) V)[k]? = some (adz z k, .inr (ci, fs)) := by rw [wd_at hk, hV]
  obtain ⟨r, h1, cell, q1, q2, q3, q4⟩ := hP k _ he
  have hr : r = (C, T, n) := Option.some.inj (h1.symm.trans hc)
  subst hr
  obtain ⟨hSl, hfc, kC, hkC, hkind⟩ := X.2.1.1 ci _ hc
  obtain ⟨cf, kf, fi, f, hi, hsl⟩ := hSl j hj
  have hlay := X.1.2.2.2.2 _ (hin _ (u_in_lay hj))
  unfold u_lay at hlay
  rw [if_pos hfin] at hlay
  have hst := (u_facts hfc hkC (u_lays X.1.2.2.2.2 hin hj) hi).1
  have hcf : m.cls = cf := by
    obtain ⟨_, _, c', _, _, _, -, -, hf', -, -, -, hown2, -⟩ := Cond.laysFinal_spec hlay
    have e1 : c' = cf := by have := hi.symm.trans hf'; simp at this; exact this.1.symm
    rw [hdecl] at hown2
    rw [← e1]; exact Option.some.inj (X.1.2.2.2.1.symm.trans hown2)
  have h6 := u_fits hfc hkC hkind (Or.inr hlay) hi hd hn hfit
  refine W.putFinK X.1.1 X.1.2.1 X.1.2.2.2.1 (X.1.2.2.2.2 _ hlink) hi hst hcf hm (by rw [q2]; exact h6) q1 q3 (by rw [hsl]; exact k2_hasslot (q4 j hj)) rfl rfl hdg fun H' e1 e2 e3 => ?_
  rw [hsl] at e1 ⊢
  have hP1 := va_P.set hP (wd_Dz) he (e := .inr (ci, fs.set j v)) ⟨_, hc, t_OB.to (V := updV (vp_V fs) j v) ⟨_, e1, q2, q3, t_set q4 hap hj v⟩ (fun i _ => vp_updV_set hl v i)⟩ e3
  rw [wd_set hk] at hP1
  exact kk _ H' _ (va_up_self _ _ _) (fun i hi => va_up_ne _ _ hi) hP1 e2 (hS.put e2 e3 (Nat.le_add_right z k))
theorem r_putZ (X : WX p s m as c cc nL own dd t) (hP : HP dd N (adz z) V H) (hS : va_S (Az z) H0 H locs) {k ci : Nat} {C : String} {T : u_T} {n : Nat} (hc : vwCl[ci]? = some (C, T, n)) (hin : ∀ w ∈ u_ws C T n, w ∈ GW)
    (ty0 : Nat → FieldType) (hty : ∀ k, k < n → parseFieldDescriptor (T k).2.2.1 = some (ty0 k)) (hnm : ∀ a, a < n → ∀ b, b < n → a ≠ b → (T a).2.1 ≠ (T b).2.1) {fs : List Value} (hk : k < N) (hV : V k = .inr (ci, fs)) (j : Nat) (hj : j < n) {index : Nat}
    (hlink : Cond.fieldLink own index (T j).1 (T j).2.1 (T j).2.2.1 ∈ GW) (hfin : (T j).2.2.2 = false) {ty : FieldType} {v : Value} (hd : parseFieldDescriptor (T j).2.2.1 = some ty) (hn : narrow ty v = v) (hfit : fits ty v = true) (hl : j < fs.length) {fs' : List Value} (hfs : fs.set j v = fs') (hdg : decode cc pc = .ok (.putfield index, 3))
    (kk : ∀ (V1 : Nat → va_E) (H1 : Heap) (locs1 : List Loc), V1 k = .inr (ci, fs') → (∀ i, i ≠ k → V1 i = V i) → HP dd N (adz z) V1 H1 → H1.size = H.size → va_S (Az z) H0 H1 locs1 → W p l e R s m as below meth c H1 locs1 cells slots Q (F0 m (pc + 3) ls rest)) : W p l e R s m as below meth c H locs cells slots Q (F0 m pc ls (v :: .ref (adz z k) :: rest)) := by
  subst hfs
  have hap := va_apart (own := own) X.1.2.2.2.2 hin ty0 hty hnm X.2.1 hc
  have he : (wd N (adz z) V)[k]? = some (adz z k, .inr (ci, fs)) := by rw [wd_at hk, hV]
  obtain ⟨r, h1, cell, q1, q2, q3, q4⟩ := hP k _ he
  have hr : r = (C, T, n) := Option.some.inj (h1.symm.trans hc)
  subst hr
  obtain ⟨hSl, hfc, kC, hkC, hkind⟩ := X.2.1.1 ci _ hc
  obtain ⟨cf, kf, fi, f, hi, hsl⟩ := hSl j hj
  have hlay := X.1.2.2.2.2 _ (hin _ (u_in_lay hj))
  unfold u_lay at hlay
  rw [if_neg (by rw [hfin]; decide)] at hlay
  have hst := (u_facts hfc hkC (u_lays X.1.2.2.2.2 hin hj) hi).1
  have h6 := u_store hfc hkC hkind hlay hi hd hn hfit
  refine W.putK X.1.1 X.1.2.1 (f := f) ⟨X.1.2.2.2.1, X.1.2.2.2.2 _ hlink, ⟨_, _, _, hi⟩, hst⟩ (by rw [q2]; exact h6) q1 q3 (by rw [hsl]; exact k2_hasslot (q4 j hj)) rfl rfl hdg fun H' e1 e2 e3 => ?_
  rw [hsl] at e1 ⊢
  have hP1 := va_P.set hP (wd_Dz) he (e := .inr (ci, fs.set j v)) ⟨_, hc, t_OB.to (V := updV (vp_V fs) j v) ⟨_, e1, q2, q3, t_set q4 hap hj v⟩ (fun i _ => vp_updV_set hl v i)⟩ e3
  rw [wd_set hk] at hP1
  exact kk _ H' _ (va_up_self _ _ _) (fun i hi => va_up_ne _ _ hi) hP1 e2 (hS.put e2 e3 (Nat.le_add_right z k))
end NW
