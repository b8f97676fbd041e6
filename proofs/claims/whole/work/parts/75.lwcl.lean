/-! the law: both systems side by side, and a call of one of them -/
def gL (D : va_G) (ad : Nat → Nat) (cz : Nat → ClassId) (bd : Nat → Nat) (dz : Nat → ClassId) (A : Nat → Prop) (H0 : Heap) (σ τ : fl_St) (H : Heap) (locs : List Loc) : Prop := va_P D vwCl (wc ad cz σ ++ wm bd dz τ) H ∧ va_D A (wc ad cz σ ++ wm bd dz τ) ∧ va_S A H0 H locs
section LC
variable {p : Program} {l : Launch} {e : Env} {R : Room} {s : State} {m : MethodId} {args : Array Value} {below : List Frame} {meth : Method} {c : Code} {H H0 : Heap} {locs : List Loc} {cells slots : Nat} {Q : State → Prop}
variable {D : va_G} {ad bd : Nat → Nat} {cz dz : Nat → ClassId} {A : Nat → Prop} {σ σ' τ τ' : fl_St} {cc : ByteArray} {pc : Nat} {ls : Array Slot} {rest stk : List Value}
variable {y : MethodName} {bytes : ByteArray} {maxL nL n index : Nat} {ret : Option FieldType} {ws : List Cond} {rm : Room} {Ts : List Cond} {own : String} {As : List Value} {r : Int32}
theorem h_ci (S : CallFix p m c cc nL s args Ts own) (hM : gMi l y ws rm D (wc ad cz) (wcT cz) wcN (.ref (ad 0) :: As) σ r σ') (cw : CallW R s args own RX2 index y bytes maxL ret ws rm 0 0 n) (hK : gK D (wcT cz) wcN s) (hA : ∀ q : Nat, H0.size ≤ q → A q) (hg : gL D ad cz bd dz A H0 σ τ H locs) (hn : As.length = n) (hsize : ls.size = nL) (hst : stk = As.reverse ++ .ref (ad 0) :: rest) (hroom : (rest.map fun v => v.category).sum ≤ 8) (hdg : decode cc pc = .ok (.invokevirtual index, 3)) (hf : cells ≤ R.cells ∧ slots ≤ R.slots)
    (kk : ∀ (H1 : Heap) (locs1 : List Loc), gL D ad cz bd dz A H0 σ' τ H1 locs1 → W p l e R s m args below meth c H1 locs1 cells slots Q (F0 m (pc + 3) ls (.int r :: rest))) : W p l e R s m args below meth c H locs cells slots Q (F0 m pc ls stk) := by
  have hPc := hg.1.sub (ws' := wc ad cz σ) [0, 1, 2, 3, 4, 5, 6, 7, 8, 9, 10, 11, 12, 13, 14] rfl
  have hDc := hg.2.1.sub (ws' := wc ad cz σ) [0, 1, 2, 3, 4, 5, 6, 7, 8, 9, 10, 11, 12, 13, 14] (by decide) rfl
  have hFc := va_free (wc := wc ad cz σ) hg.2.1 hg.2.2 hA [0, 1, 2, 3, 4, 5, 6, 7, 8, 9, 10, 11, 12, 13, 14] rfl
  refine va_calli (va_runV (As := As) (rest := rest) S (hM H.size) cw ⟨gPc.blind, va_recv hK.1 hPc (ci := 2) (q0 := 0) rfl rfl, fun U hU hW => ⟨rfl, by rw [hU], by rw [hU]; exact hPc, hK.warm hW, hDc.weaken (fun _ _ _ _ => trivial)⟩⟩ rfl hn hsize hst (lv_room hroom) hdg hf) hg.2.2 (fun q _ h => hFc q h) hFc (fun r2 u t H1 locs1 ht hvm hw hB hz1 hk1 hS => ?_)
  obtain ⟨rfl, rfl⟩ := hw
  have hP1 := hB.1
  rw [ht] at hP1
  obtain ⟨hP, hD⟩ := va_join (wr := wm bd dz τ) (w1 := wc ad cz u) hg.1 hg.2.1 [0, 1, 2, 3, 4, 5, 6, 7, 8, 9, 10, 11, 12, 13, 14] [15, 16, 17, 18, 19, 20, 21, 22, 23, 24, 25, 26, 27, 28] rfl rfl (by decide) (by decide) hk1 hFc hP1 hB.2
  exact kk H1 locs1 ⟨hP.sub [14, 15, 16, 17, 18, 19, 20, 21, 22, 23, 24, 25, 26, 27, 28, 0, 1, 2, 3, 4, 5, 6, 7, 8, 9, 10, 11, 12, 13] rfl, hD.sub [14, 15, 16, 17, 18, 19, 20, 21, 22, 23, 24, 25, 26, 27, 28, 0, 1, 2, 3, 4, 5, 6, 7, 8, 9, 10, 11, 12, 13] (by decide) rfl, hS⟩
theorem h_cv (S : CallFix p m c cc nL s args Ts own) (hM : gMv l y ws rm D (wc ad cz) (wcT cz) wcN (.ref (ad 0) :: As) σ σ') (cw : CallW R s args own RX2 index y bytes maxL ret ws rm 0 0 n) (hK : gK D (wcT cz) wcN s) (hA : ∀ q : Nat, H0.size ≤ q → A q) (hg : gL D ad cz bd dz A H0 σ τ H locs) (hn : As.length = n) (hsize : ls.size = nL) (hst : stk = As.reverse ++ .ref (ad 0) :: rest) (hroom : (rest.map fun v => v.category).sum ≤ 8) (hdg : decode cc pc = .ok (.invokevirtual index, 3)) (hf : cells ≤ R.cells ∧ slots ≤ R.slots)
    (kk : ∀ (H1 : Heap) (locs1 : List Loc), gL D ad cz bd dz A H0 σ' τ H1 locs1 → W p l e R s m args below meth c H1 locs1 cells slots Q (F0 m (pc + 3) ls rest)) : W p l e R s m args below meth c H locs cells slots Q (F0 m pc ls stk) := by
  have hPc := hg.1.sub (ws' := wc ad cz σ) [0, 1, 2, 3, 4, 5, 6, 7, 8, 9, 10, 11, 12, 13, 14] rfl
  have hDc := hg.2.1.sub (ws' := wc ad cz σ) [0, 1, 2, 3, 4, 5, 6, 7, 8, 9, 10, 11, 12, 13, 14] (by decide) rfl
  have hFc := va_free (wc := wc ad cz σ) hg.2.1 hg.2.2 hA [0, 1, 2, 3, 4, 5, 6, 7, 8, 9, 10, 11, 12, 13, 14] rfl
  refine va_callv (va_runV (As := As) (rest := rest) S (hM H.size) cw ⟨gPc.blind, va_recv hK.1 hPc (ci := 2) (q0 := 0) rfl rfl, fun U hU hW => ⟨rfl, by rw [hU], by rw [hU]; exact hPc, hK.warm hW, hDc.weaken (fun _ _ _ _ => trivial)⟩⟩ rfl hn hsize hst (lv_room hroom) hdg hf) hg.2.2 (fun q _ h => hFc q h) hFc (fun u t H1 locs1 ht hvm hw hB hz1 hk1 hS => ?_)
  obtain rfl := hw
  have hP1 := hB.1
  rw [ht] at hP1
  obtain ⟨hP, hD⟩ := va_join (wr := wm bd dz τ) (w1 := wc ad cz u) hg.1 hg.2.1 [0, 1, 2, 3, 4, 5, 6, 7, 8, 9, 10, 11, 12, 13, 14] [15, 16, 17, 18, 19, 20, 21, 22, 23, 24, 25, 26, 27, 28] rfl rfl (by decide) (by decide) hk1 hFc hP1 hB.2
  exact kk H1 locs1 ⟨hP.sub [14, 15, 16, 17, 18, 19, 20, 21, 22, 23, 24, 25, 26, 27, 28, 0, 1, 2, 3, 4, 5, 6, 7, 8, 9, 10, 11, 12, 13] rfl, hD.sub [14, 15, 16, 17, 18, 19, 20, 21, 22, 23, 24, 25, 26, 27, 28, 0, 1, 2, 3, 4, 5, 6, 7, 8, 9, 10, 11, 12, 13] (by decide) rfl, hS⟩
theorem h_mi (S : CallFix p m c cc nL s args Ts own) (hM : gMi l y ws rm D (wm bd dz) (wmT dz) [] (.ref (bd 0) :: As) τ r τ') (cw : CallW R s args own RX3 index y bytes maxL ret ws rm 0 0 n) (hK : gK D (wmT dz) [] s) (hA : ∀ q : Nat, H0.size ≤ q → A q) (hg : gL D ad cz bd dz A H0 σ τ H locs) (hn : As.length = n) (hsize : ls.size = nL) (hst : stk = As.reverse ++ .ref (bd 0) :: rest) (hroom : (rest.map fun v => v.category).sum ≤ 8) (hdg : decode cc pc = .ok (.invokevirtual index, 3)) (hf : cells ≤ R.cells ∧ slots ≤ R.slots)
    (kk : ∀ (H1 : Heap) (locs1 : List Loc), gL D ad cz bd dz A H0 σ τ' H1 locs1 → W p l e R s m args below meth c H1 locs1 cells slots Q (F0 m (pc + 3) ls (.int r :: rest))) : W p l e R s m args below meth c H locs cells slots Q (F0 m pc ls stk) := by
  have hPc := hg.1.sub (ws' := wm bd dz τ) [15, 16, 17, 18, 19, 20, 21, 22, 23, 24, 25, 26, 27, 28] rfl
  have hDc := hg.2.1.sub (ws' := wm bd dz τ) [15, 16, 17, 18, 19, 20, 21, 22, 23, 24, 25, 26, 27, 28] (by decide) rfl
  have hFc := va_free (wc := wm bd dz τ) hg.2.1 hg.2.2 hA [15, 16, 17, 18, 19, 20, 21, 22, 23, 24, 25, 26, 27, 28] rfl
  refine va_calli (va_runV (As := As) (rest := rest) S (hM H.size) cw ⟨gPc.blind, va_recv hK.1 hPc (ci := 3) (q0 := 0) rfl rfl, fun U hU hW => ⟨rfl, by rw [hU], by rw [hU]; exact hPc, hK.warm hW, hDc.weaken (fun _ _ _ _ => trivial)⟩⟩ rfl hn hsize hst (lv_room hroom) hdg hf) hg.2.2 (fun q _ h => hFc q h) hFc (fun r2 u t H1 locs1 ht hvm hw hB hz1 hk1 hS => ?_)
  obtain ⟨rfl, rfl⟩ := hw
  have hP1 := hB.1
  rw [ht] at hP1
  obtain ⟨hP, hD⟩ := va_join (wr := wc ad cz σ) (w1 := wm bd dz u) hg.1 hg.2.1 [15, 16, 17, 18, 19, 20, 21, 22, 23, 24, 25, 26, 27, 28] [0, 1, 2, 3, 4, 5, 6, 7, 8, 9, 10, 11, 12, 13, 14] rfl rfl (by decide) (by decide) hk1 hFc hP1 hB.2
  exact kk H1 locs1 ⟨hP, hD, hS⟩
theorem h_mv (S : CallFix p m c cc nL s args Ts own) (hM : gMv l y ws rm D (wm bd dz) (wmT dz) [] (.ref (bd 0) :: As) τ τ') (cw : CallW R s args own RX3 index y bytes maxL ret ws rm 0 0 n) (hK : gK D (wmT dz) [] s) (hA : ∀ q : Nat, H0.size ≤ q → A q) (hg : gL D ad cz bd dz A H0 σ τ H locs) (hn : As.length = n) (hsize : ls.size = nL) (hst : stk = As.reverse ++ .ref (bd 0) :: rest) (hroom : (rest.map fun v => v.category).sum ≤ 8) (hdg : decode cc pc = .ok (.invokevirtual index, 3)) (hf : cells ≤ R.cells ∧ slots ≤ R.slots)
    (kk : ∀ (H1 : Heap) (locs1 : List Loc), gL D ad cz bd dz A H0 σ τ' H1 locs1 → W p l e R s m args below meth c H1 locs1 cells slots Q (F0 m (pc + 3) ls rest)) : W p l e R s m args below meth c H locs cells slots Q (F0 m pc ls stk) := by
  have hPc := hg.1.sub (ws' := wm bd dz τ) [15, 16, 17, 18, 19, 20, 21, 22, 23, 24, 25, 26, 27, 28] rfl
  have hDc := hg.2.1.sub (ws' := wm bd dz τ) [15, 16, 17, 18, 19, 20, 21, 22, 23, 24, 25, 26, 27, 28] (by decide) rfl
  have hFc := va_free (wc := wm bd dz τ) hg.2.1 hg.2.2 hA [15, 16, 17, 18, 19, 20, 21, 22, 23, 24, 25, 26, 27, 28] rfl
  refine va_callv (va_runV (As := As) (rest := rest) S (hM H.size) cw ⟨gPc.blind, va_recv hK.1 hPc (ci := 3) (q0 := 0) rfl rfl, fun U hU hW => ⟨rfl, by rw [hU], by rw [hU]; exact hPc, hK.warm hW, hDc.weaken (fun _ _ _ _ => trivial)⟩⟩ rfl hn hsize hst (lv_room hroom) hdg hf) hg.2.2 (fun q _ h => hFc q h) hFc (fun u t H1 locs1 ht hvm hw hB hz1 hk1 hS => ?_)
  obtain rfl := hw
  have hP1 := hB.1
  rw [ht] at hP1
  obtain ⟨hP, hD⟩ := va_join (wr := wc ad cz σ) (w1 := wm bd dz u) hg.1 hg.2.1 [15, 16, 17, 18, 19, 20, 21, 22, 23, 24, 25, 26, 27, 28] [0, 1, 2, 3, 4, 5, 6, 7, 8, 9, 10, 11, 12, 13, 14] rfl rfl (by decide) (by decide) hk1 hFc hP1 hB.2
  exact kk H1 locs1 ⟨hP, hD, hS⟩
end LC
section LS
variable {p : Program} {l : Launch} {e : Env} {R : Room} {s : State} {m : MethodId} {args : Array Value} {below : List Frame} {meth : Method} {c : Code} {H : Heap} {locs : List Loc} {cells slots : Nat} {Q : State → Prop}
theorem h_arg {A : Nat → Prop} {cc : ByteArray} {pc b L nL j0 j3 : Nat} {ls : Array Slot} {rest : List Value} {xs : Nat → Int32} {x3 v : Int32} {k : Int} {lv : List (Nat × Value)} (hx : p.tables.exec = Jvm.exec) (hb : c.code = cc) (hX : va_X b L xs s s.heap) (hbl : b < s.heap.size) (hbA : ¬ A b) (hS : va_S A s.heap H locs) (hl : lv_has ls nL lv) (h0 : lv[j0]? = some (0, .ref b)) (h3 : lv[j3]? = some (3, .int x3)) (hv : Int32.ofInt k = v) (hin : vp_in (x3 + v) L)
    (d0 : decode cc pc = .ok (.aload_n 0, 1)) (d1 : decode cc (pc + 1) = .ok (.iload_n 3, 1)) (d2 : decode cc (pc + 2) = .ok (.iconst k, 1)) (d3 : decode cc (pc + 3) = .ok (.iadd, 1)) (d4 : decode cc (pc + 4) = .ok (.iaload, 1))
    (kk : W p l e R s m args below meth c H locs cells slots Q (F0 m (pc + 5) ls (.int (xs (x3 + v).toNatClampNeg) :: rest))) : W p l e R s m args below meth c H locs cells slots Q (F0 m pc ls rest) := by
  refine lv_aload_n hx hb d0 rfl (lv_at hl j0 h0) ?_
  refine lv_iload_n hx hb d1 rfl (lv_at hl j3 h3) ?_
  refine lv_iconst (v := v) hx hb d2 hv ?_
  refine lv_iadd hx hb d3 ?_
  exact va_sld hx hb hX hbl hbA hS hin d4 kk
end LS
