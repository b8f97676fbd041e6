/-! the constructor of the class -/
set_option maxHeartbeats 4000000 in
set_option maxRecDepth 100000 in
theorem c_X2_init (l : Launch) (D : va_G) (h0 : Nat) (sz : Nat) : Met l yX2_init wsX2_init ({ frames := 3, cells := 14, slots := 286, locals := 52 }) (va_Pc [.ref h0] (fun U => U.heap.size = sz ∧ va_P D vwCl [(h0, .inr (2, [.null, .null]))] U.heap ∧ gK D [] inN U ∧ va_D (fun _ => True) [(h0, .inr (2, [.null, .null]))])) (va_Qv (fun u : gA => u.1 0 = h0) (fun u t => va_P D vwCl (wc u.1 u.2 fl_σ) t.heap ∧ va_K D vwCl (wcT u.2) t ∧ va_D (va_A [(h0, .inr (2, [.null, .null]))] sz) (wc u.1 u.2 fl_σ)) (va_A [(h0, .inr (2, [.null, .null]))] sz)) 14 286 (va_A [(h0, .inr (2, [.null, .null]))] sz) := by
  refine Met.ofW (cc := cX2_init) (maxL := 1) (ret := none) (by decide) rfl ?_
  intro p e s m args below meth c s₁ B hml hv
  obtain ⟨rfl, hsz, hP, hG, hD0⟩ := hv
  have hx := B.exec
  have hb := B.bytes
  have hr := B.returns
  have hts := atoms_spec (ws := wsX2_init) B.pre
  have hown : s.vm.findClass RX2 = some m.cls := findClass_of_methodNamed B.named
  have hlocks := B.notSynchronized
  have hin : meth.name = "<init>" := (name_of_methodNamed B.named B.method).1
  subst hsz
  have hD := hD0.self (sz := s.heap.size)
  generalize hAe : va_A [(h0, .inr (2, [.null, .null]))] s.heap.size = A at hD ⊢
  have hA : ∀ q : Nat, s.heap.size ≤ q → A q := fun q h => by rw [← hAe]; exact Or.inr h
  have hS : va_S A s.heap s.heap [] := va_S.rf
  have hK : va_K D vwCl [] s := hG.1
  have hw0 : ∀ w ∈ wsX00, w ∈ wsX2_init := fun w h => List.mem_cons_of_mem _ (List.mem_append_right _ h)
  have hw1 : ∀ w ∈ wsX10, w ∈ wsX2_init := fun w h => List.mem_cons_of_mem _ (List.mem_append_left _ (List.mem_append_left _ (List.mem_append_right _ h)))
  have hw2 : ∀ w ∈ wsX20, w ∈ wsX2_init := fun w h => List.mem_cons_of_mem _ (List.mem_append_left _ (List.mem_append_right _ h))
  have hl := lv_entry ([.ref h0]) (n := 1) (Nat.le_of_ble_eq_true rfl)
  rw [lg_entry_eq]
  generalize (lg_sl ([.ref h0]) ++ List.replicate (1 - (lg_sl ([.ref h0])).length) Slot.unset).toArray = ls at hl ⊢
  have hl : lv_has ls 1 [(0, .ref h0)] := hl
  refine lv_aload_n hx hb dX2_init_0 rfl (lv_at hl 0 rfl) ?_
  refine W.objInit hx hb hown (hts (.methodLink RX2 3 objectInit) (by decide +kernel)) (hts (.instanceMethod objectInit) (by decide +kernel)) (hts _ (List.mem_cons_of_mem _ (List.mem_append_left _ (List.mem_append_left _ (List.mem_append_left _ (List.mem_append_left _ (List.mem_of_getElem? (i := 2) rfl))))))) rfl (by rw [hml]; exact hl.1) rfl dX2_init_1 (Nat.le_of_ble_eq_true rfl) (Nat.le_of_ble_eq_true rfl) ?_
  refine W.eq (g2 := F0 m 4 ls []) rfl ?_
  refine lv_aload_n hx hb dX2_init_4 rfl (lv_at hl 0 rfl) ?_
  refine va_new (ci := 1) (fs := [.null, .null, .null, .null, .null, .null, .null, .null]) (C := RX1) (T := TX1) (N := 8) hx hb hts hw1 tyX1 tyX1_ok hown (hts (.classLink RX2 9 RX1) (by decide +kernel)) (hts (.instantiable RX1 8) (by decide +kernel)) (hts (.initialized RX1) (by decide +kernel)) hK hP hD hS hA rfl (fun j hj => by rcases (show j = 0 ∨ j = 1 ∨ j = 2 ∨ j = 3 ∨ j = 4 ∨ j = 5 ∨ j = 6 ∨ j = 7 by omega) with rfl | rfl | rfl | rfl | rfl | rfl | rfl | rfl <;> rfl) (Nat.le_of_ble_eq_true rfl) (Nat.le_of_ble_eq_true rfl) dX2_init_5 (fun q0 H hP hD hS => ?_)
  have hP : va_P D vwCl [(h0, .inr (2, [.null, .null])), (q0, .inr (1, [.null, .null, .null, .null, .null, .null, .null, .null]))] H := hP
  have hD : va_D A [(h0, .inr (2, [.null, .null])), (q0, .inr (1, [.null, .null, .null, .null, .null, .null, .null, .null]))] := hD
  refine W.widen (k := 1) (n := 8) (by omega) (by omega) ?_
  refine lv_dup hx hb dX2_init_8 rfl ?_
  have hGc : gK D [] inR s := ⟨hG.1, fun q hq => hG.2 q (List.mem_cons_of_mem _ hq)⟩
  have hPc := hP.sub (ws' := [(q0, .inr (1, [.null, .null, .null, .null, .null, .null, .null, .null]))]) [1] rfl
  have hDc := hD.sub (ws' := [(q0, .inr (1, [.null, .null, .null, .null, .null, .null, .null, .null]))]) [1] (by decide) rfl
  have hFc := va_free (wc := [(q0, .inr (1, [.null, .null, .null, .null, .null, .null, .null, .null]))]) hD hS hA [1] rfl
  refine va_callv (va_runIN (As := []) (rest := [.ref q0, .ref h0]) ⟨hx, hb, hml, hown, hts⟩ (c_X1_init l D q0 H.size) ⟨va_cnB (host := RX2) 0 hts gX2_init_X1_init_n11 rfl rfl rfl (hG.2 (RX2, 11, yX1_init, RX2) List.mem_cons_self) (hts (.initialized RX1) (by decide +kernel)) (by decide +kernel) ⟨Nat.le_of_ble_eq_true rfl, Nat.le_of_ble_eq_true rfl⟩, rfl, hts (.instanceMethod yX1_init) (by decide +kernel)⟩ ⟨fun a U g mk q => by obtain ⟨q0, q1, qP, qK, qD⟩ := q; exact ⟨q0, q1, qP, gK.call qK, qD⟩, fun U hU hW => ⟨rfl, by rw [hU], by rw [hU]; exact hPc, hGc.warm hW, hDc.weaken (fun _ _ _ _ => trivial)⟩⟩ rfl rfl hl.1 rfl (lv_room (Nat.le_of_ble_eq_true rfl)) dX2_init_9 ⟨Nat.le_of_ble_eq_true rfl, Nat.le_of_ble_eq_true rfl⟩) hS (fun q _ h => hFc q h) hFc (fun u t H1 locs ht hvm hw hB hz1 hk1 hS => ?_)
  obtain ⟨a1, z1⟩ := u
  obtain ⟨hP1, hK1, hD1⟩ := hB
  rw [ht] at hP1
  have hK : va_K D vwCl (w1T z1) s := va_K.moved hvm.symm hK1
  obtain ⟨hP, hD⟩ := va_join (wr := [(h0, .inr (2, [.null, .null]))]) (w1 := w1 q0 a1 z1) hP hD [1] [0] rfl rfl (by decide) (by decide) hk1 hFc hP1 hD1
  generalize H1 = H at hP hS ⊢
  refine W.widen (k := 14) (n := 286) (by omega) (by omega) ?_
  have hK : va_K D vwCl [(z1 0, .int), (z1 1, .int), (z1 2, .int), (z1 3, .int), (z1 4, .int), (z1 5, .int), (z1 6, .int), (z1 7, .int), (z1 8, .int), (z1 9, .int), (z1 10, .int), (z1 11, .int)] s := hK
  have hP : va_P D vwCl [(h0, .inr (2, [.null, .null])), (q0, .inr (1, [.ref (a1 1), .ref (a1 8), .ref (a1 9), .ref (a1 10), .ref (a1 11), .ref (a1 12), .ref (a1 13), .ref (a1 14)])), (a1 1, .inr (0, [.ref (a1 3), .ref (a1 4), .ref (a1 5), .ref (a1 6), .ref (a1 7), .int 0])), (a1 3, .inl (z1 0, 20, .inl fl_0)), (a1 4, .inl (z1 1, 20, .inl fl_0)), (a1 5, .inl (z1 2, 20, .inl fl_0)), (a1 6, .inl (z1 3, 20, .inl fl_0)), (a1 7, .inl (z1 4, 8, .inl fl_0)), (a1 8, .inl (z1 5, 40, .inl fl_0)), (a1 9, .inl (z1 6, 40, .inl fl_0)), (a1 10, .inl (z1 7, 40, .inl fl_0)), (a1 11, .inl (z1 8, 40, .inl fl_0)), (a1 12, .inl (z1 9, 8, .inl fl_0)), (a1 13, .inl (z1 10, 8, .inl fl_0)), (a1 14, .inl (z1 11, 8, .inl fl_0))] H := hP
  have hD : va_D A [(h0, .inr (2, [.null, .null])), (q0, .inr (1, [.ref (a1 1), .ref (a1 8), .ref (a1 9), .ref (a1 10), .ref (a1 11), .ref (a1 12), .ref (a1 13), .ref (a1 14)])), (a1 1, .inr (0, [.ref (a1 3), .ref (a1 4), .ref (a1 5), .ref (a1 6), .ref (a1 7), .int 0])), (a1 3, .inl (z1 0, 20, .inl fl_0)), (a1 4, .inl (z1 1, 20, .inl fl_0)), (a1 5, .inl (z1 2, 20, .inl fl_0)), (a1 6, .inl (z1 3, 20, .inl fl_0)), (a1 7, .inl (z1 4, 8, .inl fl_0)), (a1 8, .inl (z1 5, 40, .inl fl_0)), (a1 9, .inl (z1 6, 40, .inl fl_0)), (a1 10, .inl (z1 7, 40, .inl fl_0)), (a1 11, .inl (z1 8, 40, .inl fl_0)), (a1 12, .inl (z1 9, 8, .inl fl_0)), (a1 13, .inl (z1 10, 8, .inl fl_0)), (a1 14, .inl (z1 11, 8, .inl fl_0))] := hD
  refine va_putF (D := D) (ci := 2) (v := .ref q0) (ty := .object "FlowLedger$Router") (C := RX2) (T := TX2) (N := 2) hx hb hts hw2 tyX2 tyX2_ok nmX2 hown hK hP hD hS 0 rfl rfl 0 (by decide) (hts (.fieldLink RX2 12 "FlowLedger" "router" "LFlowLedger$Router;") (by decide +kernel)) (fun _ h9 => h9) rfl hin rfl (by decide +kernel) rfl rfl (Nat.le_of_ble_eq_true rfl) dX2_init_12 (fun H locs hP hD hS => ?_)
  have hP : va_P D vwCl [(h0, .inr (2, [.ref q0, .null])), (q0, .inr (1, [.ref (a1 1), .ref (a1 8), .ref (a1 9), .ref (a1 10), .ref (a1 11), .ref (a1 12), .ref (a1 13), .ref (a1 14)])), (a1 1, .inr (0, [.ref (a1 3), .ref (a1 4), .ref (a1 5), .ref (a1 6), .ref (a1 7), .int 0])), (a1 3, .inl (z1 0, 20, .inl fl_0)), (a1 4, .inl (z1 1, 20, .inl fl_0)), (a1 5, .inl (z1 2, 20, .inl fl_0)), (a1 6, .inl (z1 3, 20, .inl fl_0)), (a1 7, .inl (z1 4, 8, .inl fl_0)), (a1 8, .inl (z1 5, 40, .inl fl_0)), (a1 9, .inl (z1 6, 40, .inl fl_0)), (a1 10, .inl (z1 7, 40, .inl fl_0)), (a1 11, .inl (z1 8, 40, .inl fl_0)), (a1 12, .inl (z1 9, 8, .inl fl_0)), (a1 13, .inl (z1 10, 8, .inl fl_0)), (a1 14, .inl (z1 11, 8, .inl fl_0))] H := hP
  have hD : va_D A [(h0, .inr (2, [.ref q0, .null])), (q0, .inr (1, [.ref (a1 1), .ref (a1 8), .ref (a1 9), .ref (a1 10), .ref (a1 11), .ref (a1 12), .ref (a1 13), .ref (a1 14)])), (a1 1, .inr (0, [.ref (a1 3), .ref (a1 4), .ref (a1 5), .ref (a1 6), .ref (a1 7), .int 0])), (a1 3, .inl (z1 0, 20, .inl fl_0)), (a1 4, .inl (z1 1, 20, .inl fl_0)), (a1 5, .inl (z1 2, 20, .inl fl_0)), (a1 6, .inl (z1 3, 20, .inl fl_0)), (a1 7, .inl (z1 4, 8, .inl fl_0)), (a1 8, .inl (z1 5, 40, .inl fl_0)), (a1 9, .inl (z1 6, 40, .inl fl_0)), (a1 10, .inl (z1 7, 40, .inl fl_0)), (a1 11, .inl (z1 8, 40, .inl fl_0)), (a1 12, .inl (z1 9, 8, .inl fl_0)), (a1 13, .inl (z1 10, 8, .inl fl_0)), (a1 14, .inl (z1 11, 8, .inl fl_0))] := hD
  refine lv_aload_n hx hb dX2_init_15 rfl (lv_at hl 0 rfl) ?_
  refine lv_aload_n hx hb dX2_init_16 rfl (lv_at hl 0 rfl) ?_
  refine va_get (D := D) (ci := 2) (v := .ref q0) (C := RX2) (T := TX2) (N := 2) hx hb hts hw2 hown hK hP 0 rfl rfl 0 (by decide) (hts (.fieldLink RX2 12 "FlowLedger" "router" "LFlowLedger$Router;") (by decide +kernel)) (fun _ h9 => h9) rfl dX2_init_17 ?_
  refine va_get (D := D) (ci := 1) (v := .ref (a1 1)) (C := RX1) (T := TX1) (N := 8) hx hb hts hw1 hown hK hP 1 rfl rfl 0 (by decide) (hts (.fieldLink RX2 16 "FlowLedger$Router" "network" "LFlowLedger$Network;") (by decide +kernel)) (fun _ h9 => h9) rfl dX2_init_20 ?_
  refine va_putF (D := D) (ci := 2) (v := .ref (a1 1)) (ty := .object "FlowLedger$Network") (C := RX2) (T := TX2) (N := 2) hx hb hts hw2 tyX2 tyX2_ok nmX2 hown hK hP hD hS 0 rfl rfl 1 (by decide) (hts (.fieldLink RX2 20 "FlowLedger" "network" "LFlowLedger$Network;") (by decide +kernel)) (fun _ h9 => h9) rfl hin rfl (by decide +kernel) rfl rfl (Nat.le_of_ble_eq_true rfl) dX2_init_23 (fun H locs hP hD hS => ?_)
  have hP : va_P D vwCl [(h0, .inr (2, [.ref q0, .ref (a1 1)])), (q0, .inr (1, [.ref (a1 1), .ref (a1 8), .ref (a1 9), .ref (a1 10), .ref (a1 11), .ref (a1 12), .ref (a1 13), .ref (a1 14)])), (a1 1, .inr (0, [.ref (a1 3), .ref (a1 4), .ref (a1 5), .ref (a1 6), .ref (a1 7), .int 0])), (a1 3, .inl (z1 0, 20, .inl fl_0)), (a1 4, .inl (z1 1, 20, .inl fl_0)), (a1 5, .inl (z1 2, 20, .inl fl_0)), (a1 6, .inl (z1 3, 20, .inl fl_0)), (a1 7, .inl (z1 4, 8, .inl fl_0)), (a1 8, .inl (z1 5, 40, .inl fl_0)), (a1 9, .inl (z1 6, 40, .inl fl_0)), (a1 10, .inl (z1 7, 40, .inl fl_0)), (a1 11, .inl (z1 8, 40, .inl fl_0)), (a1 12, .inl (z1 9, 8, .inl fl_0)), (a1 13, .inl (z1 10, 8, .inl fl_0)), (a1 14, .inl (z1 11, 8, .inl fl_0))] H := hP
  have hD : va_D A [(h0, .inr (2, [.ref q0, .ref (a1 1)])), (q0, .inr (1, [.ref (a1 1), .ref (a1 8), .ref (a1 9), .ref (a1 10), .ref (a1 11), .ref (a1 12), .ref (a1 13), .ref (a1 14)])), (a1 1, .inr (0, [.ref (a1 3), .ref (a1 4), .ref (a1 5), .ref (a1 6), .ref (a1 7), .int 0])), (a1 3, .inl (z1 0, 20, .inl fl_0)), (a1 4, .inl (z1 1, 20, .inl fl_0)), (a1 5, .inl (z1 2, 20, .inl fl_0)), (a1 6, .inl (z1 3, 20, .inl fl_0)), (a1 7, .inl (z1 4, 8, .inl fl_0)), (a1 8, .inl (z1 5, 40, .inl fl_0)), (a1 9, .inl (z1 6, 40, .inl fl_0)), (a1 10, .inl (z1 7, 40, .inl fl_0)), (a1 11, .inl (z1 8, 40, .inl fl_0)), (a1 12, .inl (z1 9, 8, .inl fl_0)), (a1 13, .inl (z1 10, 8, .inl fl_0)), (a1 14, .inl (z1 11, 8, .inl fl_0))] := hD
  have hP9 := hP.sub (ws' := wc (fun k => [h0, a1 1, q0, a1 3, a1 4, a1 5, a1 6, a1 7, a1 8, a1 9, a1 10, a1 11, a1 12, a1 13, a1 14].getD k 0) (fun k => [z1 0, z1 1, z1 2, z1 3, z1 4, z1 5, z1 6, z1 7, z1 8, z1 9, z1 10, z1 11].getD k (z1 0)) fl_σ) [0, 2, 1, 3, 4, 5, 6, 7, 8, 9, 10, 11, 12, 13, 14] rfl
  have hD9 := hD.sub (ws' := wc (fun k => [h0, a1 1, q0, a1 3, a1 4, a1 5, a1 6, a1 7, a1 8, a1 9, a1 10, a1 11, a1 12, a1 13, a1 14].getD k 0) (fun k => [z1 0, z1 1, z1 2, z1 3, z1 4, z1 5, z1 6, z1 7, z1 8, z1 9, z1 10, z1 11].getD k (z1 0)) fl_σ) [0, 2, 1, 3, 4, 5, 6, 7, 8, 9, 10, 11, 12, 13, 14] (by decide) rfl
  exact W.vret hx hb hr (fun t ht hW => ⟨⟨((fun k => [h0, a1 1, q0, a1 3, a1 4, a1 5, a1 6, a1 7, a1 8, a1 9, a1 10, a1 11, a1 12, a1 13, a1 14].getD k 0), (fun k => [z1 0, z1 1, z1 2, z1 3, z1 4, z1 5, z1 6, z1 7, z1 8, z1 9, z1 10, z1 11].getD k (z1 0))), rfl, rfl, by rw [ht]; exact hP9, va_K.moved hW.alike hK, hD9⟩, hS.F ht⟩) hS.2.2 dX2_init_26
