/-! new int[n][k]; a constructor's contract out of its walk; calls of constructors -/
theorem vr_outerZ (c : ClassId) (N h0 : Nat) : ∀ i : Nat, Jvm.Free.Multi.outerC c N h0 i = arrV c N (fun j => va_rf (if j < i then some (h0 + 1 + j) else none))
  | 0 => by
    show ({ cls := c, slots := Array.replicate N .null, vm := .none } : Cell) = _
    rw [arrV_new]
    refine congrArg (arrV c N) (funext fun j => ?_)
    simp [va_rf]
  | i + 1 => by
    show (Jvm.Free.Multi.outerC c N h0 i).setSlot i (.ref (h0 + 1 + i)) = _
    rw [vr_outerZ c N h0 i, arrV_store]
    refine congrArg (arrV c N) (funext fun j => ?_)
    by_cases e : j = i
    · subst e
      simp [updV, va_rf]
    · by_cases h : j < i
      · simp [updV, e, h, Nat.lt_succ_of_lt h]
      · simp [updV, e, h, show ¬ j < i + 1 by omega]
section MZ
variable {p : Program} {l : Launch} {e : Env} {R : Room} {s : State} {m : MethodId} {as : Array Value} {below : List Frame} {meth : Method} {c : Code} {H H0 : Heap} {locs : List Loc} {cells slots : Nat} {Q : State → Prop}
variable {cc : ByteArray} {nL pc : Nat} {own : String} {ls : Array Slot} {rest : List Value} {dd : va_G} {t : CL4} {N z : Nat} {V : Nat → va_E}
theorem c_mna (X : WX p s m as c cc nL own dd t) (hC : Cx2 dd t s) (hP : HP dd N (adz z) V H) (hz : H.size = z + N) (hS : va_S (Az z) H0 H locs) {index n k : Nat} (hl : Cond.classLink own index "[[I" ∈ GW) (ha : Cond.arrayClass .int ∈ GW) (hn : n < 1000) (hk : k < 1000) (hcells : cells + (1 + n) ≤ R.cells) (hslots : slots + (n + n * k) ≤ R.slots) (hdg : decode cc pc = .ok (.multianewarray index 2, 4))
    (kk : ∀ (V1 : Nat → va_E) (H1 : Heap), refs t.2.2.1 n (fun j => adz z (N + 1 + j)) (V1 N) → (∀ j, j < n → arr t.1 k (fun _ => 0) (V1 (N + 1 + j))) → (∀ i, i < N → V1 i = V i) → HP dd (N + 1 + n) (adz z) V1 H1 → H1.size = z + (N + 1 + n) → va_S (Az z) H0 H1 locs → W p l e R s m as below meth c H1 locs (cells + 1 + n) (slots + n + n * k) Q (F0 m (pc + 4) ls (.ref (adz z N) :: rest))) : W p l e R s m as below meth c H locs cells slots Q (F0 m pc ls (.int (nI k) :: .int (nI n) :: rest)) := by
  intro T hT Xs
  have en : (nI n).toNatClampNeg = n := nI_clamp (by omega)
  have ek : (nI k).toNatClampNeg = k := nI_clamp (by omega)
  have hcl : (Cond.classLink own index ("[" ++ (FieldType.array .int).toString)).before as s = true := X.1.2.2.2.2 _ hl
  obtain ⟨vm₁, cA, comp, -, fA, fC, hO, -, X', step⟩ := Xs.multianewarray2F (ty := .int) X.1.1 X.1.2.2.2.1 hcl hC.2.2.use (X.1.2.2.2.2 _ ha) (g := F0 m pc ls (.int (nI k) :: .int (nI n) :: rest)) rfl (by rw [X.1.2.1]; exact hdg) rfl (nI_pos (by omega)) (nI_pos (by omega)) (by rw [en]; omega) (by rw [ek]; show k * 4 ≤ _; omega) (by rw [ek]; omega) rfl rfl (by rw [en]; exact hcells) (by rw [en, ek]; exact hslots)
  have h1 : comp = t.1 := Option.some.inj (fC.symm.trans (X.2.1.2 0 _ rfl).2)
  have h2 : cA = t.2.2.1 := Option.some.inj (fA.symm.trans (X.2.1.2 2 _ rfl).2)
  subst h1
  subst h2
  rw [en, ek] at X' step
  generalize hF : Jvm.Free.Multi.fill (T.setVm vm₁) t.2.2.1 t.1 n k (defaultValue .int) n = F at X' step
  have hTh : (T.setVm vm₁).heap = H := hT
  obtain ⟨f1, f2, -, -⟩ := Jvm.Free.Multi.fill_facts (T.setVm vm₁) t.2.2.1 t.1 n k (defaultValue .int) n
  rw [hF, hTh] at f1 f2
  have hold : ∀ x : Nat, x < H.size → F.heap[x]? = H[x]? := fun x hx => by
    have := Jvm.Free.Multi.fill_old (T.setVm vm₁) t.2.2.1 t.1 n k (defaultValue .int) (a := x) (by rw [hTh]; exact hx) n
    rw [hF, hTh] at this
    exact this
  have hrow : ∀ j : Nat, j < n → F.heap[H.size + 1 + j]? = some (vp_cell t.1 (k, .inl (fun _ => 0))) := fun j hj => by
    have := Jvm.Free.Multi.fill_inner (T.setVm vm₁) t.2.2.1 t.1 n k (defaultValue .int) n j hj
    rw [hF, hTh] at this
    rw [this, vp_cell_i]
    show some ({ cls := t.1, slots := Array.replicate k (.int 0), vm := .none } : Cell) = _
    rw [arrV_new]
  have hout : F.heap[H.size]? = some (vp_cell t.2.2.1 (n, .inr (.inr (.inr (.inr (fun i => if i < n then some (H.size + 1 + i) else none)))))) := by
    rw [f2, vp_cell_q, vr_outerZ]
  have hsz : F.heap.size = z + (N + 1 + n) := by rw [f1, hz]; omega
  have hS1 : va_S (Az z) H0 F.heap locs := ⟨Nat.le_trans hS.1 (by omega), fun x h8 h9 => (hold x (Nat.lt_of_lt_of_le h8 hS.1)).trans (hS.2.1 x h8 h9), hS.2.2⟩
  obtain ⟨tt, a1, b1⟩ := kk (fun i => if i = N then .inl (t.2.2.1, n, .inr (.inr (.inr (.inr (fun i => if i < n then some (H.size + 1 + i) else none))))) else if N < i then .inl (t.1, k, .inl (fun _ => 0)) else V i) F.heap
    ⟨_, if_pos rfl, fun j hj => by rw [if_pos hj, hz]; exact congrArg some (show z + N + 1 + j = z + (N + 1 + j) by omega)⟩ (fun j hj => ⟨fun _ => 0, by rw [if_neg (by omega), if_pos (by omega)], fun _ _ => rfl⟩) (fun i hi => by rw [if_neg (by omega), if_neg (by omega)])
    (by
      intro q w hw
      obtain ⟨hq, rfl⟩ := wd_of hw
      by_cases c1 : q = N
      · subst c1
        rw [if_pos rfl]
        show F.heap[adz z q]? = _
        rw [← (show H.size = adz z q from hz)]
        exact hout
      · rw [if_neg c1]
        by_cases c2 : N < q
        · rw [if_pos c2]
          show F.heap[adz z q]? = _
          have hj := hrow (q - N - 1) (by omega)
          rw [show H.size + 1 + (q - N - 1) = adz z q by rw [hz]; show _ = z + q; omega] at hj
          exact hj
        · rw [if_neg c2]
          have hq2 : q < N := by omega
          exact (hP q _ (wd_at hq2)).kept (hold (adz z q) (by rw [hz]; show z + q < z + N; omega)))
    hsz hS1 F rfl X'
  refine ⟨tt, step tt ?_, b1⟩
  have e9 : T.heap.size = adz z N := by rw [hT]; exact hz
  rw [e9]
  exact a1
end MZ
section MI0
variable {l : Launch} {dd : va_G} {t : CL4} {z b : Nat} {V : Nat → va_E} {y : MethodName} {bts : ByteArray} {nL : Nat} {rm : Room} {w sl : Nat}
theorem MI.of {post : (Nat → va_E) → Prop} (hy : plainName y.cls = true) (hin : y.name = "<init>") (hlen : 1 ≤ nL)
    (wk : ∀ (p : Program) (e : Env) (s : State) (m : MethodId) (as : Array Value) (below : List Frame) (meth : Method) (c : Code) (Q : State → Prop), WX p s m as c bts nL y.cls dd t → Cx2 dd t s → meth.name = "<init>" → ∀ (H : Heap), H.size = z + (b + 1) → HP dd (b + 1) (adz z) V H → va_S (Az z) H H [] → ∀ ls : Array Slot, lv_has ls nL [(0, .ref (adz z b))] →
      (∀ (pc : Nat) (ls : Array Slot) (V1 : Nat → va_E) (H1 : Heap) (locs1 : List Loc), HP dd (b + 1 + w) (adz z) V1 H1 → H1.size = z + (b + 1 + w) → va_S (Az z) H H1 locs1 → post V1 → decode bts pc = .ok (.return_, 1) → W p l e rm s m as below meth c H1 locs1 w sl Q (F0 m pc ls [])) → W p l e rm s m as below meth c H [] 0 0 Q (F0 m 0 ls [])) :
    MI l dd t z b V y bts nL rm w sl post := by
  refine Met.ofW (cc := bts) (maxL := nL) (ret := none) hy rfl ?_
  intro p e s m as below meth c s₁ B hml hv0
  obtain ⟨rfl, hsz, hC, hP⟩ := hv0
  have hts := atoms_spec (ws := Cond.code y bts nL none :: GW) B.pre
  have hX : WX p s m (#[Value.ref (adz z b)]) c bts nL y.cls dd t := ⟨⟨B.exec, B.bytes, hml, findClass_of_methodNamed B.named, fun w hw => hts w (List.mem_cons_of_mem _ hw)⟩, hC.1⟩
  have hl := lv_entry [Value.ref (adz z b)] (n := nL) (by simpa [lg_sl, Value.category] using hlen)
  rw [lg_entry_eq]
  have hlocks := B.notSynchronized
  have hm : meth.name = "<init>" := (name_of_methodNamed B.named B.method).1.trans hin
  refine wk p e s m _ below meth c _ hX hC hm s.heap hsz hP va_S.rf _ hl (fun pc ls V1 H1 locs1 hP1 hz1 hS1 hp hdg => ?_)
  exact W.vret B.exec B.bytes B.returns (fun t ht hW => ⟨⟨V1, rfl, hp, by rw [ht]; exact hz1, by show HP dd (b + 1 + w) (adz z) V1 t.heap; rw [ht]; exact hP1⟩, hS1.F ht⟩) hS1.2.2 hdg
end MI0
section CI
variable {p : Program} {l : Launch} {e : Env} {R : Room} {s : State} {m : MethodId} {as : Array Value} {below : List Frame} {meth : Method} {c : Code} {H H0 : Heap} {locs : List Loc} {cells slots : Nat} {Q : State → Prop}
variable {cc bts : ByteArray} {nL nM pc index z b w sl : Nat} {own : String} {ls : Array Slot} {rest : List Value} {dd : va_G} {t : CL4} {V : Nat → va_E} {y : MethodName} {rm : Room}
theorem r_callI (X : WX p s m as c cc nL own dd t) (hC : Cx2 dd t s) (hz : H.size = z + (b + 1)) (hP : HP dd (b + 1) (adz z) V H) (hS : va_S (Az z) H0 H locs) {post : (Nat → va_E) → Prop} (hM : MI l dd t z b V y bts nM rm w sl post) (hcode : Cond.code y bts nM none ∈ GW) (hini : Cond.initialized y.cls ∈ GW) (hins : Cond.instanceMethod y ∈ GW) (hl : Cond.methodLink own index y ∈ GW) (hd : y.cls ≠ "java/lang/invoke/MethodHandle" ∧ y.cls ≠ "java/lang/invoke/VarHandle" ∧ (parseMethodDescriptor y.desc).map (fun d => d.parameters.length) = some 0) (hy1 : y.name = "<init>") (hrm : rm.cells = w ∧ rm.slots = sl) (hR : rmLe rm R nM) (hls : ls.size = nL) (hW : (rest.map fun v => v.category).sum ≤ 8) (hf : cells + w ≤ R.cells ∧ slots + sl ≤ R.slots) (hdg : decode cc pc = .ok (.invokespecial index, 3))
    (kk : ∀ (V1 : Nat → va_E) (H1 : Heap) (locs1 : List Loc), post V1 → HP dd (b + 1 + w) (adz z) V1 H1 → H1.size = z + (b + 1 + w) → va_S (Az z) H0 H1 locs1 → W p l e R s m as below meth c H1 locs1 (cells + w) (slots + sl) Q (F0 m (pc + 3) ls rest)) : W p l e R s m as below meth c H locs cells slots Q (F0 m pc ls (.ref (adz z b) :: rest)) := by
  have cb : CallB R s as own index y bts nM none (Cond.code y bts nM none :: GW) rm w sl 0 := callB_of 0 X.1.2.2.2.2 (GW_goodIn hcode) rfl hrm.1 hrm.2 (X.1.2.2.2.2 _ hini) (X.1.2.2.2.2 _ hl) hd hR
  refine va_callv (rest := rest) (va_runI (b := adz z b) (As := []) (rest := rest) X.1 hM ⟨cb, hy1, X.1.2.2.2.2 _ hins⟩ ⟨fun a U g mk h => ⟨h.1, h.2.1, h.2.2.1.calling, h.2.2.2⟩, fun U hU hW => ⟨rfl, by rw [hU]; exact hz, hC.warm hW, by rw [hU]; exact hP⟩⟩ rfl rfl hls rfl (lv_room hW) hdg hf) hS (fun q _ h => h) (fun q h => h) (fun V1 t1 H1 locs1 e1 _ hp hB _ _ hS1 => ?_)
  rw [e1] at hB
  exact kk V1 H1 locs1 hp hB.2 hB.1 hS1
end CI
