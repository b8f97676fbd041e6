/-! the state of a system as numbers: row k, place j; what a contract is in these words -/
abbrev fl_St : Type := Nat → Nat → Int32
def st (σ : fl_St) (k j : Nat) (x : Int32) : fl_St := fun k' => if k' = k then upd (σ k) j x else σ k'
/-- reading and writing a row of n places -/
def fl_rd (σ : fl_St) (k n : Nat) (i : Int32) : Option Int32 := if i < 0 ∨ n ≤ i.toNatClampNeg then none else some (σ k i.toNatClampNeg)
def fl_wr (σ : fl_St) (k n : Nat) (i x : Int32) : Option fl_St := if i < 0 ∨ n ≤ i.toNatClampNeg then none else some (st σ k i.toNatClampNeg x)
def fl_N : Nat := 2000000
theorem fl_rd_b {α : Type} {σ : fl_St} {k n : Nat} {i : Int32} {K : Int32 → Option α} {o : α} (h : (fl_rd σ k n i).bind K = some o) : ∃ v : Int32, vp_in i n ∧ σ k i.toNatClampNeg = v ∧ K v = some o := by
  unfold fl_rd at h
  by_cases hc : i < 0 ∨ n ≤ i.toNatClampNeg
  · rw [if_pos hc] at h; cases h
  · rw [if_neg hc] at h; exact ⟨_, hc, rfl, h⟩
theorem fl_wr_b {α : Type} {σ : fl_St} {k n : Nat} {i x : Int32} {K : fl_St → Option α} {o : α} (h : (fl_wr σ k n i x).bind K = some o) : ∃ σ1 : fl_St, vp_in i n ∧ st σ k i.toNatClampNeg x = σ1 ∧ K σ1 = some o := by
  unfold fl_wr at h
  by_cases hc : i < 0 ∨ n ≤ i.toNatClampNeg
  · rw [if_pos hc] at h; cases h
  · rw [if_neg hc] at h; exact ⟨_, hc, rfl, h⟩
theorem fl_bnd {α β : Type} {x : Option β} {K : β → Option α} {o : α} (h : x.bind K = some o) : ∃ v : β, x = some v ∧ K v = some o := by
  cases x with
  | none => cases h
  | some v => exact ⟨v, rfl, h⟩
theorem fl_sto {α : Type} {σ σ' : fl_St} {K : fl_St → Option α} {o : α} (e : σ = σ') (h : K σ = some o) : K σ' = some o := e ▸ h
/-- the cells of a system, where the law's start stands: what holds of the heap -/
def gS (D : va_G) (wf : fl_St → va_W) (A : Nat → Prop) (H0 : Heap) (σ : fl_St) (H : Heap) (locs : List Loc) : Prop := va_P D vwCl (wf σ) H ∧ va_D A (wf σ) ∧ va_S A H0 H locs
abbrev gN : Type := String × Nat × MethodName × String
def gK (D : va_G) (tys : List (ClassId × FieldType)) (nl : List gN) (U : State) : Prop := va_K D vwCl tys U ∧ ∀ q ∈ nl, va_Nw (.methodLinkNest q.1 q.2.1 q.2.2.1 q.2.2.2) U
def gPc (D : va_G) (wf : fl_St → va_W) (tys : List (ClassId × FieldType)) (nl : List gN) (av : List Value) (σ : fl_St) (sz : Nat) : Array Value → State → Prop := va_Pc av (fun U => U.heap.size = sz ∧ va_P D vwCl (wf σ) U.heap ∧ gK D tys nl U ∧ va_D (fun _ => True) (wf σ))
def gB (D : va_G) (wf : fl_St → va_W) (A : Nat → Prop) (σ2 : fl_St) (t : State) : Prop := va_P D vwCl (wf σ2) t.heap ∧ va_D A (wf σ2)
/-- the method y, called with av where the cells hold σ, answers r and leaves σ' -/
def gMi (l : Launch) (y : MethodName) (ws : List Cond) (rm : Room) (D : va_G) (wf : fl_St → va_W) (tys : List (ClassId × FieldType)) (nl : List gN) (av : List Value) (σ : fl_St) (r : Int32) (σ' : fl_St) : Prop :=
  ∀ sz : Nat, Met l y ws rm (gPc D wf tys nl av σ sz) (va_Qi (fun (r2 : Int32) (σ2 : fl_St) => r2 = r ∧ σ2 = σ') (gB D wf (va_A (wf σ) sz)) (va_A (wf σ) sz)) 0 0 (va_A (wf σ) sz)
def gMv (l : Launch) (y : MethodName) (ws : List Cond) (rm : Room) (D : va_G) (wf : fl_St → va_W) (tys : List (ClassId × FieldType)) (nl : List gN) (av : List Value) (σ : fl_St) (σ' : fl_St) : Prop :=
  ∀ sz : Nat, Met l y ws rm (gPc D wf tys nl av σ sz) (va_Qv (fun (σ2 : fl_St) => σ2 = σ') (gB D wf (va_A (wf σ) sz)) (va_A (wf σ) sz)) 0 0 (va_A (wf σ) sz)
theorem gK.warm {D : va_G} {tys : List (ClassId × FieldType)} {nl : List gN} {s U : State} (h : gK D tys nl s) (hW : s.WarmedH U.vm) : gK D tys nl U := ⟨va_K.moved hW.alike h.1, fun q hq => va_Nw.warmM hW (h.2 q hq)⟩
theorem gK.call {D : va_G} {tys : List (ClassId × FieldType)} {nl : List gN} {U : State} {g : JFrame} {mk : MethodId} {a : Array Value} (h : gK D tys nl U) : gK D tys nl (U.calling g mk a) := ⟨va_K.moved (u := U) (U := U.calling g mk a) (Vm.Alike.refl U.vm) h.1, fun q hq => va_Nw.same rfl rfl (h.2 q hq)⟩
theorem gPc.blind {D : va_G} {wf : fl_St → va_W} {tys : List (ClassId × FieldType)} {nl : List gN} {av : List Value} {σ : fl_St} {sz : Nat} : FrameBlind (gPc D wf tys nl av σ sz) := fun a U g mk q => by
  obtain ⟨q0, q1, qP, qK, qD⟩ := q
  exact ⟨q0, q1, qP, gK.call qK, qD⟩
theorem gMi_of {l : Launch} {y : MethodName} {ws ws' : List Cond} {rm : Room} {D : va_G} {wf : fl_St → va_W} {tys : List (ClassId × FieldType)} {nl : List gN} {av : List Value} {σ : fl_St} {r : Int32} {σ' : fl_St} {cc : ByteArray} {maxL : Nat} {ty : FieldType} (hy : plainName y.cls = true) (hw : ws = Cond.code y cc maxL (some ty) :: ws') (hlen : (lg_sl av).length ≤ maxL)
    (body : ∀ (p : Program) (e : Env) (s : State) (m : MethodId) (args : Array Value) (below : List Frame) (meth : Method) (c : Code) (A : Nat → Prop) (Q : State → Prop) (ls : Array Slot),
      p.tables.exec = Jvm.exec → c.code = cc → c.maxLocals = maxL → s.vm.findClass y.cls = some m.cls → (∀ w ∈ ws, w.before args s = true) → gK D tys nl s → (∀ q : Nat, s.heap.size ≤ q → A q) → gS D wf A s.heap σ s.heap [] → lv_has ls maxL (lv_args 0 av) →
      (∀ (v : Int32) (σ1 : fl_St) (H : Heap) (locs : List Loc) (pc : Nat) (ls : Array Slot), some (v, σ1) = some (r, σ') → gS D wf A s.heap σ1 H locs → narrow ty (.int v) = .int v → decode cc pc = .ok (.ireturn, 1) → W p l e rm s m args below meth c H locs 0 0 Q (F0 m pc ls [.int v])) →
      W p l e rm s m args below meth c s.heap [] 0 0 Q (F0 m 0 ls [])) : gMi l y ws rm D wf tys nl av σ r σ' := by
  intro sz
  refine Met.ofW (cc := cc) (maxL := maxL) (ret := some ty) hy hw ?_
  intro p e s m args below meth c s₁ B hml hv
  obtain ⟨rfl, hsz, hP, hK, hD0⟩ := hv
  subst hsz
  have hD := hD0.self (sz := s.heap.size)
  have hl := lv_entry av (n := maxL) hlen
  rw [lg_entry_eq]
  generalize (lg_sl av ++ List.replicate (maxL - (lg_sl av).length) Slot.unset).toArray = ls at hl ⊢
  refine body p e s m _ below meth c (va_A (wf σ) s.heap.size) _ ls B.exec B.bytes hml (findClass_of_methodNamed B.named) (atoms_spec (ws := ws) B.pre) hK (fun q h => Or.inr h) ⟨hP, hD, va_S.rf⟩ hl ?_
  intro v σ1 H locs pc ls he hS hn hd
  obtain ⟨rfl, rfl⟩ := Prod.mk.inj (Option.some.inj he)
  have hlocks := B.notSynchronized
  exact W.zret B.exec B.bytes B.returns hn (fun t ht hW => ⟨⟨v, σ1, rfl, ⟨rfl, rfl⟩, by rw [ht]; exact hS.1, hS.2.1⟩, hS.2.2.F ht⟩) hS.2.2.2.2 hd
theorem gMv_of {l : Launch} {y : MethodName} {ws ws' : List Cond} {rm : Room} {D : va_G} {wf : fl_St → va_W} {tys : List (ClassId × FieldType)} {nl : List gN} {av : List Value} {σ : fl_St} {σ' : fl_St} {cc : ByteArray} {maxL : Nat} (hy : plainName y.cls = true) (hw : ws = Cond.code y cc maxL none :: ws') (hlen : (lg_sl av).length ≤ maxL)
    (body : ∀ (p : Program) (e : Env) (s : State) (m : MethodId) (args : Array Value) (below : List Frame) (meth : Method) (c : Code) (A : Nat → Prop) (Q : State → Prop) (ls : Array Slot),
      p.tables.exec = Jvm.exec → c.code = cc → c.maxLocals = maxL → s.vm.findClass y.cls = some m.cls → (∀ w ∈ ws, w.before args s = true) → gK D tys nl s → (∀ q : Nat, s.heap.size ≤ q → A q) → gS D wf A s.heap σ s.heap [] → lv_has ls maxL (lv_args 0 av) →
      (∀ (σ1 : fl_St) (H : Heap) (locs : List Loc) (pc : Nat) (ls : Array Slot), some σ1 = some σ' → gS D wf A s.heap σ1 H locs → decode cc pc = .ok (.return_, 1) → W p l e rm s m args below meth c H locs 0 0 Q (F0 m pc ls [])) →
      W p l e rm s m args below meth c s.heap [] 0 0 Q (F0 m 0 ls [])) : gMv l y ws rm D wf tys nl av σ σ' := by
  intro sz
  refine Met.ofW (cc := cc) (maxL := maxL) (ret := none) hy hw ?_
  intro p e s m args below meth c s₁ B hml hv
  obtain ⟨rfl, hsz, hP, hK, hD0⟩ := hv
  subst hsz
  have hD := hD0.self (sz := s.heap.size)
  have hl := lv_entry av (n := maxL) hlen
  rw [lg_entry_eq]
  generalize (lg_sl av ++ List.replicate (maxL - (lg_sl av).length) Slot.unset).toArray = ls at hl ⊢
  refine body p e s m _ below meth c (va_A (wf σ) s.heap.size) _ ls B.exec B.bytes hml (findClass_of_methodNamed B.named) (atoms_spec (ws := ws) B.pre) hK (fun q h => Or.inr h) ⟨hP, hD, va_S.rf⟩ hl ?_
  intro σ1 H locs pc ls he hS hd
  obtain rfl := Option.some.inj he
  have hlocks := B.notSynchronized
  exact W.vret B.exec B.bytes B.returns (fun t ht hW => ⟨⟨σ1, rfl, rfl, by rw [ht]; exact hS.1, hS.2.1⟩, hS.2.2.F ht⟩) hS.2.2.2.2 hd
section G
variable {p : Program} {l : Launch} {e : Env} {R : Room} {s : State} {m : MethodId} {args : Array Value} {below : List Frame} {meth : Method} {c : Code} {H H0 : Heap} {locs : List Loc} {cells slots : Nat} {Q : State → Prop}
variable {D : va_G} {wf : fl_St → va_W} {tys : List (ClassId × FieldType)} {nl : List gN} {A : Nat → Prop} {σ σ' : fl_St} {cc : ByteArray} {pc : Nat} {ls : Array Slot} {rest stk : List Value}
variable {y : MethodName} {bytes : ByteArray} {maxL nL n index : Nat} {ret : Option FieldType} {ws : List Cond} {rm : Room} {Ts : List Cond} {own C host : String} {b : Addr} {As : List Value} {r : Int32}
theorem gS.free (hA : ∀ q : Nat, H0.size ≤ q → A q) (hg : gS D wf A H0 σ H locs) : ∀ q, va_A (wf σ) H.size q → A q := fun q h => by
  rcases h with ⟨k, e, h⟩ | h
  · exact hg.2.1.2 k _ h
  · exact hA q (Nat.le_trans hg.2.2.1 h)
theorem g_ld {k q0 t0 a : Nat} {cA : ClassId} {i v : Int32} (hx : p.tables.exec = Jvm.exec) (hb : c.code = cc) (hK : gK D tys nl s) (hg : gS D wf A H0 σ H locs) (ha : (wf σ)[q0]? = some (a, .inl (cA, n, .inl (σ k)))) (ht : tys[t0]? = some (cA, .int)) (hin : vp_in i n) (hv : σ k i.toNatClampNeg = v) (hdg : decode cc pc = .ok (.iaload, 1))
    (kk : W p l e R s m args below meth c H locs cells slots Q (F0 m (pc + 1) ls (.int v :: rest))) : W p l e R s m args below meth c H locs cells slots Q (F0 m pc ls (.int i :: .ref a :: rest)) := by
  subst hv
  exact va_iald hx hb hK.1 hg.1 q0 t0 ha ht hin hdg kk
theorem g_ldz {k q0 t0 a : Nat} {cA : ClassId} {i v : Int32} (hx : p.tables.exec = Jvm.exec) (hb : c.code = cc) (hK : gK D tys nl s) (hg : gS D wf A H0 σ H locs) (ha : (wf σ)[q0]? = some (a, .inl (cA, n, .inl (σ k)))) (ht : tys[t0]? = some (cA, .boolean)) (hin : vp_in i n) (hv : σ k i.toNatClampNeg = v) (hdg : decode cc pc = .ok (.baload, 1))
    (kk : W p l e R s m args below meth c H locs cells slots Q (F0 m (pc + 1) ls (.int v :: rest))) : W p l e R s m args below meth c H locs cells slots Q (F0 m pc ls (.int i :: .ref a :: rest)) := by
  subst hv
  exact va_zald hx hb hK.1 hg.1 q0 t0 ha ht hin hdg kk
theorem g_st {k q0 t0 a : Nat} {cA : ClassId} {i x : Int32} (hx : p.tables.exec = Jvm.exec) (hb : c.code = cc) (hK : gK D tys nl s) (hg : gS D wf A H0 σ H locs) (ha : (wf σ)[q0]? = some (a, .inl (cA, n, .inl (σ k)))) (hs : ∀ (j : Nat) (z : Int32), (wf σ).set q0 (a, .inl (cA, n, .inl (upd (σ k) j z))) = wf (st σ k j z)) (ht : tys[t0]? = some (cA, .int)) (hin : vp_in i n) (he : st σ k i.toNatClampNeg x = σ') (hdg : decode cc pc = .ok (.iastore, 1))
    (kk : ∀ (H1 : Heap) (locs1 : List Loc), gS D wf A H0 σ' H1 locs1 → W p l e R s m args below meth c H1 locs1 cells slots Q (F0 m (pc + 1) ls rest)) : W p l e R s m args below meth c H locs cells slots Q (F0 m pc ls (.int x :: .int i :: .ref a :: rest)) := by
  subst he
  refine va_iast hx hb hK.1 hg.1 hg.2.1 hg.2.2 q0 t0 ha ht hin hdg (fun H1 locs1 h1 h2 h3 => kk H1 locs1 ⟨?_, ?_, h3⟩)
  · rw [hs] at h1; exact h1
  · rw [hs] at h2; exact h2
theorem g_stz {k q0 t0 a : Nat} {cA : ClassId} {i x : Int32} (hx : p.tables.exec = Jvm.exec) (hb : c.code = cc) (hK : gK D tys nl s) (hg : gS D wf A H0 σ H locs) (ha : (wf σ)[q0]? = some (a, .inl (cA, n, .inl (σ k)))) (hs : ∀ (j : Nat) (z : Int32), (wf σ).set q0 (a, .inl (cA, n, .inl (upd (σ k) j z))) = wf (st σ k j z)) (ht : tys[t0]? = some (cA, .boolean)) (hn : vp_nar .boolean x = x) (hin : vp_in i n) (he : st σ k i.toNatClampNeg x = σ') (hdg : decode cc pc = .ok (.bastore, 1))
    (kk : ∀ (H1 : Heap) (locs1 : List Loc), gS D wf A H0 σ' H1 locs1 → W p l e R s m args below meth c H1 locs1 cells slots Q (F0 m (pc + 1) ls rest)) : W p l e R s m args below meth c H locs cells slots Q (F0 m pc ls (.int x :: .int i :: .ref a :: rest)) := by
  subst he
  refine va_zast hx hb hK.1 hg.1 hg.2.1 hg.2.2 q0 t0 ha ht hin hdg (fun H1 locs1 h1 h2 h3 => kk H1 locs1 ⟨?_, ?_, h3⟩)
  · rw [hn, hs] at h1; exact h1
  · rw [hn, hs] at h2; exact h2
theorem g_callVi (S : CallFix p m c cc nL s args Ts own) (hM : gMi l y ws rm D wf tys nl (.ref b :: As) σ r σ') (cw : CallW R s args own C index y bytes maxL ret ws rm 0 0 n) (hr : ∃ cell : Cell, H[b]? = some cell ∧ cell.vm.isStatics = false ∧ s.vm.findClass C = some cell.cls) (hK : gK D tys nl s) (hA : ∀ q : Nat, H0.size ≤ q → A q) (hg : gS D wf A H0 σ H locs) (hn : As.length = n) (hsize : ls.size = nL) (hst : stk = As.reverse ++ .ref b :: rest) (hroom : (rest.map fun v => v.category).sum ≤ 8) (hdg : decode cc pc = .ok (.invokevirtual index, 3)) (hf : cells ≤ R.cells ∧ slots ≤ R.slots)
    (kk : ∀ (H1 : Heap) (locs1 : List Loc), gS D wf A H0 σ' H1 locs1 → W p l e R s m args below meth c H1 locs1 cells slots Q (F0 m (pc + 3) ls (.int r :: rest))) : W p l e R s m args below meth c H locs cells slots Q (F0 m pc ls stk) := by
  have hFc := gS.free hA hg
  refine va_calli (va_runV (As := As) (rest := rest) S (hM H.size) cw ⟨gPc.blind, hr, fun U hU hW => ⟨rfl, by rw [hU], by rw [hU]; exact hg.1, hK.warm hW, hg.2.1.weaken (fun _ _ _ _ => trivial)⟩⟩ rfl hn hsize hst (lv_room hroom) hdg hf) hg.2.2 (fun q _ h => hFc q h) hFc (fun r2 u t H1 locs1 ht hvm hw hB hz1 hk1 hS => ?_)
  obtain ⟨rfl, rfl⟩ := hw
  exact kk H1 locs1 ⟨by have h := hB.1; rw [ht] at h; exact h, hB.2.weaken (fun _ q _ h => hFc q.1 h), hS⟩
theorem g_callVv (S : CallFix p m c cc nL s args Ts own) (hM : gMv l y ws rm D wf tys nl (.ref b :: As) σ σ') (cw : CallW R s args own C index y bytes maxL ret ws rm 0 0 n) (hr : ∃ cell : Cell, H[b]? = some cell ∧ cell.vm.isStatics = false ∧ s.vm.findClass C = some cell.cls) (hK : gK D tys nl s) (hA : ∀ q : Nat, H0.size ≤ q → A q) (hg : gS D wf A H0 σ H locs) (hn : As.length = n) (hsize : ls.size = nL) (hst : stk = As.reverse ++ .ref b :: rest) (hroom : (rest.map fun v => v.category).sum ≤ 8) (hdg : decode cc pc = .ok (.invokevirtual index, 3)) (hf : cells ≤ R.cells ∧ slots ≤ R.slots)
    (kk : ∀ (H1 : Heap) (locs1 : List Loc), gS D wf A H0 σ' H1 locs1 → W p l e R s m args below meth c H1 locs1 cells slots Q (F0 m (pc + 3) ls rest)) : W p l e R s m args below meth c H locs cells slots Q (F0 m pc ls stk) := by
  have hFc := gS.free hA hg
  refine va_callv (va_runV (As := As) (rest := rest) S (hM H.size) cw ⟨gPc.blind, hr, fun U hU hW => ⟨rfl, by rw [hU], by rw [hU]; exact hg.1, hK.warm hW, hg.2.1.weaken (fun _ _ _ _ => trivial)⟩⟩ rfl hn hsize hst (lv_room hroom) hdg hf) hg.2.2 (fun q _ h => hFc q h) hFc (fun u t H1 locs1 ht hvm hw hB hz1 hk1 hS => ?_)
  obtain rfl := hw
  exact kk H1 locs1 ⟨by have h := hB.1; rw [ht] at h; exact h, hB.2.weaken (fun _ q _ h => hFc q.1 h), hS⟩
theorem g_callSi (S : CallFix p m c cc nL s args Ts own) (hM : gMi l y ws rm D wf tys nl As σ r σ') (cw : CallB R s args own index y bytes maxL ret ws rm 0 0 n ∧ (Cond.static y).before args s = true) (hK : gK D tys nl s) (hA : ∀ q : Nat, H0.size ≤ q → A q) (hg : gS D wf A H0 σ H locs) (hn : As.length = n) (hsize : ls.size = nL) (hst : stk = As.reverse ++ rest) (hroom : (rest.map fun v => v.category).sum ≤ 8) (hdg : decode cc pc = .ok (.invokestatic index, 3)) (hf : cells ≤ R.cells ∧ slots ≤ R.slots)
    (kk : ∀ (H1 : Heap) (locs1 : List Loc), gS D wf A H0 σ' H1 locs1 → W p l e R s m args below meth c H1 locs1 cells slots Q (F0 m (pc + 3) ls (.int r :: rest))) : W p l e R s m args below meth c H locs cells slots Q (F0 m pc ls stk) := by
  have hFc := gS.free hA hg
  refine va_calli (va_runS (As := As) (rest := rest) S (hM H.size) cw ⟨gPc.blind, fun U hU hW => ⟨rfl, by rw [hU], by rw [hU]; exact hg.1, hK.warm hW, hg.2.1.weaken (fun _ _ _ _ => trivial)⟩⟩ rfl hn hsize hst (lv_room hroom) hdg hf) hg.2.2 (fun q _ h => hFc q h) hFc (fun r2 u t H1 locs1 ht hvm hw hB hz1 hk1 hS => ?_)
  obtain ⟨rfl, rfl⟩ := hw
  exact kk H1 locs1 ⟨by have h := hB.1; rw [ht] at h; exact h, hB.2.weaken (fun _ q _ h => hFc q.1 h), hS⟩
theorem g_callNi (S : CallFix p m c cc nL s args Ts own) (hM : gMi l y ws rm D wf tys nl As σ r σ') (cw : va_CN R s args own index y host bytes maxL ret ws rm 0 0 n ∧ (Cond.static y).before args s = true ∧ True) (hK : gK D tys nl s) (hA : ∀ q : Nat, H0.size ≤ q → A q) (hg : gS D wf A H0 σ H locs) (hn : As.length = n) (hsize : ls.size = nL) (hst : stk = As.reverse ++ rest) (hroom : (rest.map fun v => v.category).sum ≤ 8) (hdg : decode cc pc = .ok (.invokestatic index, 3)) (hf : cells ≤ R.cells ∧ slots ≤ R.slots)
    (kk : ∀ (H1 : Heap) (locs1 : List Loc), gS D wf A H0 σ' H1 locs1 → W p l e R s m args below meth c H1 locs1 cells slots Q (F0 m (pc + 3) ls (.int r :: rest))) : W p l e R s m args below meth c H locs cells slots Q (F0 m pc ls stk) := by
  have hFc := gS.free hA hg
  refine va_calli (va_runSN (As := As) (rest := rest) S (hM H.size) cw ⟨gPc.blind, fun U hU hW => ⟨rfl, by rw [hU], by rw [hU]; exact hg.1, hK.warm hW, hg.2.1.weaken (fun _ _ _ _ => trivial)⟩⟩ rfl hn hsize hst (lv_room hroom) hdg hf) hg.2.2 (fun q _ h => hFc q h) hFc (fun r2 u t H1 locs1 ht hvm hw hB hz1 hk1 hS => ?_)
  obtain ⟨rfl, rfl⟩ := hw
  exact kk H1 locs1 ⟨by have h := hB.1; rw [ht] at h; exact h, hB.2.weaken (fun _ q _ h => hFc q.1 h), hS⟩
end G
/-- FlowLedger: rows 0 from, 1 to, 2 capacity, 3 cost (20), 4 supply (8), 5 tail, 6 head, 7 weight, 8 room (40), 9 excess, 10 distance, 11 entry (8); 12, place 0: count -/
def wc (ad : Nat → Nat) (cz : Nat → ClassId) (σ : fl_St) : va_W := [(ad 0, .inr (2, [.ref (ad 2), .ref (ad 1)])), (ad 1, .inr (0, [.ref (ad 3), .ref (ad 4), .ref (ad 5), .ref (ad 6), .ref (ad 7), .int (σ 12 0)])), (ad 2, .inr (1, [.ref (ad 1), .ref (ad 8), .ref (ad 9), .ref (ad 10), .ref (ad 11), .ref (ad 12), .ref (ad 13), .ref (ad 14)])), (ad 3, .inl (cz 0, 20, .inl (σ 0))), (ad 4, .inl (cz 1, 20, .inl (σ 1))), (ad 5, .inl (cz 2, 20, .inl (σ 2))), (ad 6, .inl (cz 3, 20, .inl (σ 3))), (ad 7, .inl (cz 4, 8, .inl (σ 4))), (ad 8, .inl (cz 5, 40, .inl (σ 5))), (ad 9, .inl (cz 6, 40, .inl (σ 6))), (ad 10, .inl (cz 7, 40, .inl (σ 7))), (ad 11, .inl (cz 8, 40, .inl (σ 8))), (ad 12, .inl (cz 9, 8, .inl (σ 9))), (ad 13, .inl (cz 10, 8, .inl (σ 10))), (ad 14, .inl (cz 11, 8, .inl (σ 11)))]
def wcT (cz : Nat → ClassId) : List (ClassId × FieldType) := [(cz 0, .int), (cz 1, .int), (cz 2, .int), (cz 3, .int), (cz 4, .int), (cz 5, .int), (cz 6, .int), (cz 7, .int), (cz 8, .int), (cz 9, .int), (cz 10, .int), (cz 11, .int)]
def wcN : List gN := [(RX0, 27, yX2_sumAboveZero, RX2), (RX1, 66, yX2_sumAboveZero, RX2)]
theorem wc_a0 (ad : Nat → Nat) (cz : Nat → ClassId) (σ : fl_St) : (wc ad cz σ)[3]? = some (ad 3, .inl (cz 0, 20, .inl (σ 0))) := rfl
theorem wc_s0 (ad : Nat → Nat) (cz : Nat → ClassId) (σ : fl_St) (j : Nat) (z : Int32) : (wc ad cz σ).set 3 (ad 3, .inl (cz 0, 20, .inl (upd (σ 0) j z))) = wc ad cz (st σ 0 j z) := rfl
theorem wc_a1 (ad : Nat → Nat) (cz : Nat → ClassId) (σ : fl_St) : (wc ad cz σ)[4]? = some (ad 4, .inl (cz 1, 20, .inl (σ 1))) := rfl
theorem wc_s1 (ad : Nat → Nat) (cz : Nat → ClassId) (σ : fl_St) (j : Nat) (z : Int32) : (wc ad cz σ).set 4 (ad 4, .inl (cz 1, 20, .inl (upd (σ 1) j z))) = wc ad cz (st σ 1 j z) := rfl
theorem wc_a2 (ad : Nat → Nat) (cz : Nat → ClassId) (σ : fl_St) : (wc ad cz σ)[5]? = some (ad 5, .inl (cz 2, 20, .inl (σ 2))) := rfl
theorem wc_s2 (ad : Nat → Nat) (cz : Nat → ClassId) (σ : fl_St) (j : Nat) (z : Int32) : (wc ad cz σ).set 5 (ad 5, .inl (cz 2, 20, .inl (upd (σ 2) j z))) = wc ad cz (st σ 2 j z) := rfl
theorem wc_a3 (ad : Nat → Nat) (cz : Nat → ClassId) (σ : fl_St) : (wc ad cz σ)[6]? = some (ad 6, .inl (cz 3, 20, .inl (σ 3))) := rfl
theorem wc_s3 (ad : Nat → Nat) (cz : Nat → ClassId) (σ : fl_St) (j : Nat) (z : Int32) : (wc ad cz σ).set 6 (ad 6, .inl (cz 3, 20, .inl (upd (σ 3) j z))) = wc ad cz (st σ 3 j z) := rfl
theorem wc_a4 (ad : Nat → Nat) (cz : Nat → ClassId) (σ : fl_St) : (wc ad cz σ)[7]? = some (ad 7, .inl (cz 4, 8, .inl (σ 4))) := rfl
theorem wc_s4 (ad : Nat → Nat) (cz : Nat → ClassId) (σ : fl_St) (j : Nat) (z : Int32) : (wc ad cz σ).set 7 (ad 7, .inl (cz 4, 8, .inl (upd (σ 4) j z))) = wc ad cz (st σ 4 j z) := rfl
theorem wc_a5 (ad : Nat → Nat) (cz : Nat → ClassId) (σ : fl_St) : (wc ad cz σ)[8]? = some (ad 8, .inl (cz 5, 40, .inl (σ 5))) := rfl
theorem wc_s5 (ad : Nat → Nat) (cz : Nat → ClassId) (σ : fl_St) (j : Nat) (z : Int32) : (wc ad cz σ).set 8 (ad 8, .inl (cz 5, 40, .inl (upd (σ 5) j z))) = wc ad cz (st σ 5 j z) := rfl
theorem wc_a6 (ad : Nat → Nat) (cz : Nat → ClassId) (σ : fl_St) : (wc ad cz σ)[9]? = some (ad 9, .inl (cz 6, 40, .inl (σ 6))) := rfl
theorem wc_s6 (ad : Nat → Nat) (cz : Nat → ClassId) (σ : fl_St) (j : Nat) (z : Int32) : (wc ad cz σ).set 9 (ad 9, .inl (cz 6, 40, .inl (upd (σ 6) j z))) = wc ad cz (st σ 6 j z) := rfl
theorem wc_a7 (ad : Nat → Nat) (cz : Nat → ClassId) (σ : fl_St) : (wc ad cz σ)[10]? = some (ad 10, .inl (cz 7, 40, .inl (σ 7))) := rfl
theorem wc_s7 (ad : Nat → Nat) (cz : Nat → ClassId) (σ : fl_St) (j : Nat) (z : Int32) : (wc ad cz σ).set 10 (ad 10, .inl (cz 7, 40, .inl (upd (σ 7) j z))) = wc ad cz (st σ 7 j z) := rfl
theorem wc_a8 (ad : Nat → Nat) (cz : Nat → ClassId) (σ : fl_St) : (wc ad cz σ)[11]? = some (ad 11, .inl (cz 8, 40, .inl (σ 8))) := rfl
theorem wc_s8 (ad : Nat → Nat) (cz : Nat → ClassId) (σ : fl_St) (j : Nat) (z : Int32) : (wc ad cz σ).set 11 (ad 11, .inl (cz 8, 40, .inl (upd (σ 8) j z))) = wc ad cz (st σ 8 j z) := rfl
theorem wc_a9 (ad : Nat → Nat) (cz : Nat → ClassId) (σ : fl_St) : (wc ad cz σ)[12]? = some (ad 12, .inl (cz 9, 8, .inl (σ 9))) := rfl
theorem wc_s9 (ad : Nat → Nat) (cz : Nat → ClassId) (σ : fl_St) (j : Nat) (z : Int32) : (wc ad cz σ).set 12 (ad 12, .inl (cz 9, 8, .inl (upd (σ 9) j z))) = wc ad cz (st σ 9 j z) := rfl
theorem wc_a10 (ad : Nat → Nat) (cz : Nat → ClassId) (σ : fl_St) : (wc ad cz σ)[13]? = some (ad 13, .inl (cz 10, 8, .inl (σ 10))) := rfl
theorem wc_s10 (ad : Nat → Nat) (cz : Nat → ClassId) (σ : fl_St) (j : Nat) (z : Int32) : (wc ad cz σ).set 13 (ad 13, .inl (cz 10, 8, .inl (upd (σ 10) j z))) = wc ad cz (st σ 10 j z) := rfl
theorem wc_a11 (ad : Nat → Nat) (cz : Nat → ClassId) (σ : fl_St) : (wc ad cz σ)[14]? = some (ad 14, .inl (cz 11, 8, .inl (σ 11))) := rfl
theorem wc_s11 (ad : Nat → Nat) (cz : Nat → ClassId) (σ : fl_St) (j : Nat) (z : Int32) : (wc ad cz σ).set 14 (ad 14, .inl (cz 11, 8, .inl (upd (σ 11) j z))) = wc ad cz (st σ 11 j z) := rfl
theorem wc_c (ad : Nat → Nat) (cz : Nat → ClassId) (σ : fl_St) (z : Int32) : (wc ad cz σ).set 1 (ad 1, .inr (0, [.ref (ad 3), .ref (ad 4), .ref (ad 5), .ref (ad 6), .ref (ad 7), .int z])) = wc ad cz (st σ 12 0 z) := rfl
/-- FlowLedgerModel: rows 0 froms, 1 tos, 2 capacities, 3 costs (36), 4 supplies (8), 5 flow, 6 other (36), 7 seen, 8 far, 9 by (10), 10 allowed (36), 11 way, 12 row (10); 13: place 0 arcs, 1 all, 2 total -/
def wm (ad : Nat → Nat) (cz : Nat → ClassId) (σ : fl_St) : va_W := [(ad 0, .inr (3, [.int (σ 13 0), .ref (ad 1), .ref (ad 2), .ref (ad 3), .ref (ad 4), .ref (ad 5), .ref (ad 6), .ref (ad 7), .int (σ 13 1), .ref (ad 8), .ref (ad 9), .ref (ad 10), .ref (ad 11), .int (σ 13 2), .ref (ad 12), .ref (ad 13)])), (ad 1, .inl (cz 0, 36, .inl (σ 0))), (ad 2, .inl (cz 1, 36, .inl (σ 1))), (ad 3, .inl (cz 2, 36, .inl (σ 2))), (ad 4, .inl (cz 3, 36, .inl (σ 3))), (ad 5, .inl (cz 4, 8, .inl (σ 4))), (ad 6, .inl (cz 5, 36, .inl (σ 5))), (ad 7, .inl (cz 6, 36, .inl (σ 6))), (ad 8, .inl (cz 7, 10, .inl (σ 7))), (ad 9, .inl (cz 8, 10, .inl (σ 8))), (ad 10, .inl (cz 9, 10, .inl (σ 9))), (ad 11, .inl (cz 10, 36, .inl (σ 10))), (ad 12, .inl (cz 11, 10, .inl (σ 11))), (ad 13, .inl (cz 12, 10, .inl (σ 12)))]
def wmT (cz : Nat → ClassId) : List (ClassId × FieldType) := [(cz 0, .int), (cz 1, .int), (cz 2, .int), (cz 3, .int), (cz 4, .int), (cz 5, .int), (cz 6, .int), (cz 7, .boolean), (cz 8, .int), (cz 9, .int), (cz 10, .boolean), (cz 11, .int), (cz 12, .int)]
theorem wm_a0 (ad : Nat → Nat) (cz : Nat → ClassId) (σ : fl_St) : (wm ad cz σ)[1]? = some (ad 1, .inl (cz 0, 36, .inl (σ 0))) := rfl
theorem wm_s0 (ad : Nat → Nat) (cz : Nat → ClassId) (σ : fl_St) (j : Nat) (z : Int32) : (wm ad cz σ).set 1 (ad 1, .inl (cz 0, 36, .inl (upd (σ 0) j z))) = wm ad cz (st σ 0 j z) := rfl
theorem wm_a1 (ad : Nat → Nat) (cz : Nat → ClassId) (σ : fl_St) : (wm ad cz σ)[2]? = some (ad 2, .inl (cz 1, 36, .inl (σ 1))) := rfl
theorem wm_s1 (ad : Nat → Nat) (cz : Nat → ClassId) (σ : fl_St) (j : Nat) (z : Int32) : (wm ad cz σ).set 2 (ad 2, .inl (cz 1, 36, .inl (upd (σ 1) j z))) = wm ad cz (st σ 1 j z) := rfl
theorem wm_a2 (ad : Nat → Nat) (cz : Nat → ClassId) (σ : fl_St) : (wm ad cz σ)[3]? = some (ad 3, .inl (cz 2, 36, .inl (σ 2))) := rfl
theorem wm_s2 (ad : Nat → Nat) (cz : Nat → ClassId) (σ : fl_St) (j : Nat) (z : Int32) : (wm ad cz σ).set 3 (ad 3, .inl (cz 2, 36, .inl (upd (σ 2) j z))) = wm ad cz (st σ 2 j z) := rfl
theorem wm_a3 (ad : Nat → Nat) (cz : Nat → ClassId) (σ : fl_St) : (wm ad cz σ)[4]? = some (ad 4, .inl (cz 3, 36, .inl (σ 3))) := rfl
theorem wm_s3 (ad : Nat → Nat) (cz : Nat → ClassId) (σ : fl_St) (j : Nat) (z : Int32) : (wm ad cz σ).set 4 (ad 4, .inl (cz 3, 36, .inl (upd (σ 3) j z))) = wm ad cz (st σ 3 j z) := rfl
theorem wm_a4 (ad : Nat → Nat) (cz : Nat → ClassId) (σ : fl_St) : (wm ad cz σ)[5]? = some (ad 5, .inl (cz 4, 8, .inl (σ 4))) := rfl
theorem wm_s4 (ad : Nat → Nat) (cz : Nat → ClassId) (σ : fl_St) (j : Nat) (z : Int32) : (wm ad cz σ).set 5 (ad 5, .inl (cz 4, 8, .inl (upd (σ 4) j z))) = wm ad cz (st σ 4 j z) := rfl
theorem wm_a5 (ad : Nat → Nat) (cz : Nat → ClassId) (σ : fl_St) : (wm ad cz σ)[6]? = some (ad 6, .inl (cz 5, 36, .inl (σ 5))) := rfl
theorem wm_s5 (ad : Nat → Nat) (cz : Nat → ClassId) (σ : fl_St) (j : Nat) (z : Int32) : (wm ad cz σ).set 6 (ad 6, .inl (cz 5, 36, .inl (upd (σ 5) j z))) = wm ad cz (st σ 5 j z) := rfl
theorem wm_a6 (ad : Nat → Nat) (cz : Nat → ClassId) (σ : fl_St) : (wm ad cz σ)[7]? = some (ad 7, .inl (cz 6, 36, .inl (σ 6))) := rfl
theorem wm_s6 (ad : Nat → Nat) (cz : Nat → ClassId) (σ : fl_St) (j : Nat) (z : Int32) : (wm ad cz σ).set 7 (ad 7, .inl (cz 6, 36, .inl (upd (σ 6) j z))) = wm ad cz (st σ 6 j z) := rfl
theorem wm_a7 (ad : Nat → Nat) (cz : Nat → ClassId) (σ : fl_St) : (wm ad cz σ)[8]? = some (ad 8, .inl (cz 7, 10, .inl (σ 7))) := rfl
theorem wm_s7 (ad : Nat → Nat) (cz : Nat → ClassId) (σ : fl_St) (j : Nat) (z : Int32) : (wm ad cz σ).set 8 (ad 8, .inl (cz 7, 10, .inl (upd (σ 7) j z))) = wm ad cz (st σ 7 j z) := rfl
theorem wm_a8 (ad : Nat → Nat) (cz : Nat → ClassId) (σ : fl_St) : (wm ad cz σ)[9]? = some (ad 9, .inl (cz 8, 10, .inl (σ 8))) := rfl
theorem wm_s8 (ad : Nat → Nat) (cz : Nat → ClassId) (σ : fl_St) (j : Nat) (z : Int32) : (wm ad cz σ).set 9 (ad 9, .inl (cz 8, 10, .inl (upd (σ 8) j z))) = wm ad cz (st σ 8 j z) := rfl
theorem wm_a9 (ad : Nat → Nat) (cz : Nat → ClassId) (σ : fl_St) : (wm ad cz σ)[10]? = some (ad 10, .inl (cz 9, 10, .inl (σ 9))) := rfl
theorem wm_s9 (ad : Nat → Nat) (cz : Nat → ClassId) (σ : fl_St) (j : Nat) (z : Int32) : (wm ad cz σ).set 10 (ad 10, .inl (cz 9, 10, .inl (upd (σ 9) j z))) = wm ad cz (st σ 9 j z) := rfl
theorem wm_a10 (ad : Nat → Nat) (cz : Nat → ClassId) (σ : fl_St) : (wm ad cz σ)[11]? = some (ad 11, .inl (cz 10, 36, .inl (σ 10))) := rfl
theorem wm_s10 (ad : Nat → Nat) (cz : Nat → ClassId) (σ : fl_St) (j : Nat) (z : Int32) : (wm ad cz σ).set 11 (ad 11, .inl (cz 10, 36, .inl (upd (σ 10) j z))) = wm ad cz (st σ 10 j z) := rfl
theorem wm_a11 (ad : Nat → Nat) (cz : Nat → ClassId) (σ : fl_St) : (wm ad cz σ)[12]? = some (ad 12, .inl (cz 11, 10, .inl (σ 11))) := rfl
theorem wm_s11 (ad : Nat → Nat) (cz : Nat → ClassId) (σ : fl_St) (j : Nat) (z : Int32) : (wm ad cz σ).set 12 (ad 12, .inl (cz 11, 10, .inl (upd (σ 11) j z))) = wm ad cz (st σ 11 j z) := rfl
theorem wm_a12 (ad : Nat → Nat) (cz : Nat → ClassId) (σ : fl_St) : (wm ad cz σ)[13]? = some (ad 13, .inl (cz 12, 10, .inl (σ 12))) := rfl
theorem wm_s12 (ad : Nat → Nat) (cz : Nat → ClassId) (σ : fl_St) (j : Nat) (z : Int32) : (wm ad cz σ).set 13 (ad 13, .inl (cz 12, 10, .inl (upd (σ 12) j z))) = wm ad cz (st σ 12 j z) := rfl
theorem wm_c0 (ad : Nat → Nat) (cz : Nat → ClassId) (σ : fl_St) (z : Int32) : (wm ad cz σ).set 0 (ad 0, .inr (3, [.int z, .ref (ad 1), .ref (ad 2), .ref (ad 3), .ref (ad 4), .ref (ad 5), .ref (ad 6), .ref (ad 7), .int (σ 13 1), .ref (ad 8), .ref (ad 9), .ref (ad 10), .ref (ad 11), .int (σ 13 2), .ref (ad 12), .ref (ad 13)])) = wm ad cz (st σ 13 0 z) := rfl
theorem wm_c1 (ad : Nat → Nat) (cz : Nat → ClassId) (σ : fl_St) (z : Int32) : (wm ad cz σ).set 0 (ad 0, .inr (3, [.int (σ 13 0), .ref (ad 1), .ref (ad 2), .ref (ad 3), .ref (ad 4), .ref (ad 5), .ref (ad 6), .ref (ad 7), .int z, .ref (ad 8), .ref (ad 9), .ref (ad 10), .ref (ad 11), .int (σ 13 2), .ref (ad 12), .ref (ad 13)])) = wm ad cz (st σ 13 1 z) := rfl
theorem wm_c2 (ad : Nat → Nat) (cz : Nat → ClassId) (σ : fl_St) (z : Int32) : (wm ad cz σ).set 0 (ad 0, .inr (3, [.int (σ 13 0), .ref (ad 1), .ref (ad 2), .ref (ad 3), .ref (ad 4), .ref (ad 5), .ref (ad 6), .ref (ad 7), .int (σ 13 1), .ref (ad 8), .ref (ad 9), .ref (ad 10), .ref (ad 11), .int z, .ref (ad 12), .ref (ad 13)])) = wm ad cz (st σ 13 2 z) := rfl
theorem wm_af {fi : Nat} (hfi : fi = 5 ∨ fi = 6) (ad : Nat → Nat) (cz : Nat → ClassId) (σ : fl_St) : (wm ad cz σ)[fi + 1]? = some (ad (fi + 1), .inl (cz fi, 36, .inl (σ fi))) := by rcases hfi with rfl | rfl <;> rfl
theorem wm_sf {fi : Nat} (hfi : fi = 5 ∨ fi = 6) (ad : Nat → Nat) (cz : Nat → ClassId) (σ : fl_St) (j : Nat) (z : Int32) : (wm ad cz σ).set (fi + 1) (ad (fi + 1), .inl (cz fi, 36, .inl (upd (σ fi) j z))) = wm ad cz (st σ fi j z) := by rcases hfi with rfl | rfl <;> rfl
theorem wm_tf {fi : Nat} (hfi : fi = 5 ∨ fi = 6) (cz : Nat → ClassId) : (wmT cz)[fi]? = some (cz fi, .int) := by rcases hfi with rfl | rfl <;> rfl
def fl_b2 {α β γ : Type} (x : Option (α × β)) (K : α → β → Option γ) : Option γ := x.bind fun q => K q.1 q.2
def fl_b3 {α β δ γ : Type} (x : Option (α × β × δ)) (K : α → β → δ → Option γ) : Option γ := x.bind fun q => K q.1 q.2.1 q.2.2
def fl_b4 {α β δ ε γ : Type} (x : Option (α × β × δ × ε)) (K : α → β → δ → ε → Option γ) : Option γ := x.bind fun q => K q.1 q.2.1 q.2.2.1 q.2.2.2
def fl_b5 {α β δ ε ζ γ : Type} (x : Option (α × β × δ × ε × ζ)) (K : α → β → δ → ε → ζ → Option γ) : Option γ := x.bind fun q => K q.1 q.2.1 q.2.2.1 q.2.2.2.1 q.2.2.2.2
theorem fl_b2_b {α β γ : Type} {x : Option (α × β)} {K : α → β → Option γ} {o : γ} (h : fl_b2 x K = some o) : ∃ a b, x = some (a, b) ∧ K a b = some o := by
  obtain ⟨⟨a, b⟩, e, h⟩ := fl_bnd h
  exact ⟨a, b, e, h⟩
theorem fl_b3_b {α β δ γ : Type} {x : Option (α × β × δ)} {K : α → β → δ → Option γ} {o : γ} (h : fl_b3 x K = some o) : ∃ a b d, x = some (a, b, d) ∧ K a b d = some o := by
  obtain ⟨⟨a, b, d⟩, e, h⟩ := fl_bnd h
  exact ⟨a, b, d, e, h⟩
theorem fl_b4_b {α β δ ε γ : Type} {x : Option (α × β × δ × ε)} {K : α → β → δ → ε → Option γ} {o : γ} (h : fl_b4 x K = some o) : ∃ a b d e, x = some (a, b, d, e) ∧ K a b d e = some o := by
  obtain ⟨⟨a, b, d, f⟩, e, h⟩ := fl_bnd h
  exact ⟨a, b, d, f, e, h⟩
theorem fl_b5_b {α β δ ε ζ γ : Type} {x : Option (α × β × δ × ε × ζ)} {K : α → β → δ → ε → ζ → Option γ} {o : γ} (h : fl_b5 x K = some o) : ∃ a b d e f, x = some (a, b, d, e, f) ∧ K a b d e f = some o := by
  obtain ⟨⟨a, b, d, f, g⟩, e, h⟩ := fl_bnd h
  exact ⟨a, b, d, f, g, e, h⟩
theorem fl_s1 {α : Type} {a b : α} (h : some a = some b) : a = b := Option.some.inj h
theorem fl_s2 {α β : Type} {a c : α} {b d : β} (h : some (a, b) = some (c, d)) : a = c ∧ b = d := Prod.mk.inj (Option.some.inj h)
theorem fl_s3 {α β γ : Type} {a a' : α} {b b' : β} {c c' : γ} (h : some (a, b, c) = some (a', b', c')) : a = a' ∧ b = b' ∧ c = c' := by
  obtain ⟨h1, h2⟩ := fl_s2 h
  exact ⟨h1, Prod.mk.inj h2⟩
theorem fl_s4 {α β γ δ : Type} {a a' : α} {b b' : β} {c c' : γ} {d d' : δ} (h : some (a, b, c, d) = some (a', b', c', d')) : a = a' ∧ b = b' ∧ c = c' ∧ d = d' := by
  obtain ⟨h1, h2, h3⟩ := fl_s3 h
  exact ⟨h1, h2, Prod.mk.inj h3⟩
theorem fl_s5 {α β γ δ ε : Type} {a a' : α} {b b' : β} {c c' : γ} {d d' : δ} {e e' : ε} (h : some (a, b, c, d, e) = some (a', b', c', d', e')) : a = a' ∧ b = b' ∧ c = c' ∧ d = d' ∧ e = e' := by
  obtain ⟨h1, h2, h3, h4⟩ := fl_s4 h
  exact ⟨h1, h2, h3, Prod.mk.inj h4⟩
theorem fl_ifp {α : Type} {c : Prop} [Decidable c] {a b : Option α} {o : α} (hc : c) (h : (if c then a else b) = some o) : a = some o := by rwa [if_pos hc] at h
theorem fl_ifn {α : Type} {c : Prop} [Decidable c] {a b : Option α} {o : α} (hc : ¬ c) (h : (if c then a else b) = some o) : b = some o := by rwa [if_neg hc] at h
section G2
variable {p : Program} {l : Launch} {e : Env} {R : Room} {s : State} {m : MethodId} {args : Array Value} {below : List Frame} {meth : Method} {c : Code} {H H0 : Heap} {locs : List Loc} {cells slots : Nat} {Q : State → Prop}
variable {D : va_G} {wf : fl_St → va_W} {tys : List (ClassId × FieldType)} {nl : List gN} {A : Nat → Prop} {σ σ' : fl_St} {cc : ByteArray} {pc : Nat} {ls : Array Slot} {rest : List Value}
theorem g_put {own ref C : String} {T : u_T} {N ci index a : Nat} {z : Int32} {Ts : List Cond} (hx : p.tables.exec = Jvm.exec) (hb : c.code = cc) (hts : ∀ w ∈ Ts, w.before args s = true) (hin : ∀ w ∈ u_ws C T N, w ∈ Ts) (ty0 : Nat → FieldType) (hty : ∀ k, k < N → parseFieldDescriptor (T k).2.2.1 = some (ty0 k)) (hnm : ∀ a, a < N → ∀ b, b < N → a ≠ b → (T a).2.1 ≠ (T b).2.1) (hown : s.vm.findClass own = some m.cls) (hK : gK D tys nl s) (hg : gS D wf A H0 σ H locs) (q0 : Nat) {fs : List Value} (he : (wf σ)[q0]? = some (a, .inr (ci, fs))) (hc : vwCl[ci]? = some (C, T, N)) (k : Nat) (hk : k < N) (hlink : (Cond.fieldLink own index ref (T k).2.1 (T k).2.2.1).before args s = true) (hsame : ∀ x, s.fieldFound? (T k).1 (T k).2.1 (T k).2.2.1 = some x → s.fieldFound? ref (T k).2.1 (T k).2.2.1 = some x) (hfin : (T k).2.2.2 = false) (hd : parseFieldDescriptor (T k).2.2.1 = some .int) (hl : k < fs.length) (hs : (wf σ).set q0 (a, .inr (ci, fs.set k (.int z))) = wf σ')
    (hdg : decode cc pc = .ok (.putfield index, 3)) (kk : ∀ (H1 : Heap) (locs1 : List Loc), gS D wf A H0 σ' H1 locs1 → W p l e R s m args below meth c H1 locs1 cells slots Q (F0 m (pc + 3) ls rest)) : W p l e R s m args below meth c H locs cells slots Q (F0 m pc ls (.int z :: .ref a :: rest)) := by
  refine va_put hx hb hts hin ty0 hty hnm hown hK.1 hg.1 hg.2.1 hg.2.2 q0 he hc k hk hlink hsame hfin hd rfl rfl hl hdg (fun H1 locs1 h1 h2 h3 => kk H1 locs1 ⟨?_, ?_, h3⟩)
  · rw [hs] at h1; exact h1
  · rw [hs] at h2; exact h2
end G2
theorem fl_bool {α : Type} {v : Int32} {K : Option α} {o : α} (h : (if ¬ (v = 0 ∨ v = 1) then none else K) = some o) : (v = 0 ∨ v = 1) ∧ K = some o := by
  by_cases hc : v = 0 ∨ v = 1
  · rw [if_neg (fun q => q hc)] at h
    exact ⟨hc, h⟩
  · rw [if_pos hc] at h
    cases h
theorem fl_nar {v : Int32} (h : v = 0 ∨ v = 1) : vp_nar .boolean v = v := by rcases h with rfl | rfl <;> rfl
theorem fl_nar2 {v : Int32} (h : v = 0 ∨ v = 1) : narrow .boolean (.int v) = .int v := by rcases h with rfl | rfl <;> rfl
theorem wc_af {fi : Nat} (hfi : fi = 4 ∨ fi = 9) (ad : Nat → Nat) (cz : Nat → ClassId) (σ : fl_St) : (wc ad cz σ)[fi + 3]? = some (ad (fi + 3), .inl (cz fi, 8, .inl (σ fi))) := by rcases hfi with rfl | rfl <;> rfl
theorem wc_tf {fi : Nat} (hfi : fi = 4 ∨ fi = 9) (cz : Nat → ClassId) : (wcT cz)[fi]? = some (cz fi, .int) := by rcases hfi with rfl | rfl <;> rfl
