/-! the constructors that make rows -/
abbrev gA : Type := (Nat → Nat) × (Nat → ClassId)
def fl_0 : Nat → Int32 := fun _ => 0
def fl_σ : fl_St := fun _ _ => 0
theorem fl_nwi (n : Nat) (cA : ClassId) : vp_cell cA (n, .inl fl_0) = arrV cA n (fun _ => defaultValue .int) := rfl
theorem fl_nwz (n : Nat) (cA : ClassId) : vp_cell cA (n, .inl fl_0) = arrV cA n (fun _ => defaultValue .boolean) := rfl
def w0 (h0 : Nat) (ad : Nat → Nat) (cz : Nat → ClassId) : va_W := [(h0, .inr (0, [.ref (ad 3), .ref (ad 4), .ref (ad 5), .ref (ad 6), .ref (ad 7), .int 0])), (ad 3, .inl (cz 0, 20, .inl fl_0)), (ad 4, .inl (cz 1, 20, .inl fl_0)), (ad 5, .inl (cz 2, 20, .inl fl_0)), (ad 6, .inl (cz 3, 20, .inl fl_0)), (ad 7, .inl (cz 4, 8, .inl fl_0))]
def w0T (cz : Nat → ClassId) : List (ClassId × FieldType) := [(cz 0, .int), (cz 1, .int), (cz 2, .int), (cz 3, .int), (cz 4, .int)]
def w1 (h0 nb : Nat) (ad : Nat → Nat) (cz : Nat → ClassId) : va_W := [(h0, .inr (1, [.ref nb, .ref (ad 8), .ref (ad 9), .ref (ad 10), .ref (ad 11), .ref (ad 12), .ref (ad 13), .ref (ad 14)])), (ad 8, .inl (cz 5, 40, .inl fl_0)), (ad 9, .inl (cz 6, 40, .inl fl_0)), (ad 10, .inl (cz 7, 40, .inl fl_0)), (ad 11, .inl (cz 8, 40, .inl fl_0)), (ad 12, .inl (cz 9, 8, .inl fl_0)), (ad 13, .inl (cz 10, 8, .inl fl_0)), (ad 14, .inl (cz 11, 8, .inl fl_0))]
def w1T (cz : Nat → ClassId) : List (ClassId × FieldType) := [(cz 5, .int), (cz 6, .int), (cz 7, .int), (cz 8, .int), (cz 9, .int), (cz 10, .int), (cz 11, .int)]
set_option maxHeartbeats 4000000 in
set_option maxRecDepth 100000 in
theorem c_X0_init (l : Launch) (D : va_G) (h0 : Nat) (sz : Nat) : Met l yX0_init wsX0_init ({ frames := 1, cells := 5, slots := 88, locals := 12 }) (va_Pc [.ref h0] (fun U => U.heap.size = sz ∧ va_P D vwCl [(h0, .inr (0, [.null, .null, .null, .null, .null, .int 0]))] U.heap ∧ va_K D vwCl [] U ∧ va_D (fun _ => True) [(h0, .inr (0, [.null, .null, .null, .null, .null, .int 0]))])) (va_Qv (fun u : gA => True) (fun u t => va_P D vwCl (w0 h0 u.1 u.2) t.heap ∧ va_K D vwCl (w0T u.2) t ∧ va_D (va_A [(h0, .inr (0, [.null, .null, .null, .null, .null, .int 0]))] sz) (w0 h0 u.1 u.2)) (va_A [(h0, .inr (0, [.null, .null, .null, .null, .null, .int 0]))] sz)) 5 88 (va_A [(h0, .inr (0, [.null, .null, .null, .null, .null, .int 0]))] sz) := by
  refine Met.ofW (cc := cX0_init) (maxL := 1) (ret := none) (by decide) rfl ?_
  intro p e s m args below meth c s₁ B hml hv
  obtain ⟨rfl, hsz, hP, hK, hD0⟩ := hv
  have hx := B.exec
  have hb := B.bytes
  have hr := B.returns
  have hts := atoms_spec (ws := wsX0_init) B.pre
  have hown : s.vm.findClass RX0 = some m.cls := findClass_of_methodNamed B.named
  have hlocks := B.notSynchronized
  have hin : meth.name = "<init>" := (name_of_methodNamed B.named B.method).1
  subst hsz
  have hD := hD0.self (sz := s.heap.size)
  generalize hAe : va_A [(h0, .inr (0, [.null, .null, .null, .null, .null, .int 0]))] s.heap.size = A at hD ⊢
  have hA : ∀ q : Nat, s.heap.size ≤ q → A q := fun q h => by rw [← hAe]; exact Or.inr h
  have hS : va_S A s.heap s.heap [] := va_S.rf
  have hw : ∀ w ∈ wsX00, w ∈ wsX0_init := fun w h => List.mem_cons_of_mem _ (List.mem_append_right _ h)
  have hl := lv_entry ([.ref h0]) (n := 1) (Nat.le_of_ble_eq_true rfl)
  rw [lg_entry_eq]
  generalize (lg_sl ([.ref h0]) ++ List.replicate (1 - (lg_sl ([.ref h0])).length) Slot.unset).toArray = ls at hl ⊢
  have hl : lv_has ls 1 [(0, .ref h0)] := hl
  refine lv_aload_n hx hb dX0_init_0 rfl (lv_at hl 0 rfl) ?_
  refine W.objInit hx hb hown (hts (.methodLink RX0 3 objectInit) (by decide +kernel)) (hts (.instanceMethod objectInit) (by decide +kernel)) (hts _ (List.mem_cons_of_mem _ (List.mem_append_left _ (List.mem_of_getElem? (i := 2) rfl)))) rfl (by rw [hml]; exact hl.1) rfl dX0_init_1 (Nat.le_of_ble_eq_true rfl) (Nat.le_of_ble_eq_true rfl) ?_
  refine W.eq (g2 := F0 m 4 ls []) rfl ?_
  refine lv_aload_n hx hb dX0_init_4 rfl (lv_at hl 0 rfl) ?_
  refine lv_bipush (v := 20) hx hb dX0_init_5 (by decide) ?_
  refine va_newa (atype := .int) (ty := .int) (N' := 20) (a0 := (20, .inl fl_0)) hx hb (hts (.arrayClass .int) (by decide +kernel)) rfl hK hP hD hS hA (fl_nwi 20) (by decide) (by decide) (by decide) (Nat.le_of_ble_eq_true rfl) (Nat.le_of_ble_eq_true rfl) dX0_init_7 (fun q1 c1 H hK hP hD hS => ?_)
  have hK : va_K D vwCl [(c1, .int)] s := hK
  have hP : va_P D vwCl [(h0, .inr (0, [.null, .null, .null, .null, .null, .int 0])), (q1, .inl (c1, 20, .inl fl_0))] H := hP
  have hD : va_D A [(h0, .inr (0, [.null, .null, .null, .null, .null, .int 0])), (q1, .inl (c1, 20, .inl fl_0))] := hD
  refine W.widen (k := 1) (n := 20) (by omega) (by omega) ?_
  refine va_putF (D := D) (ci := 0) (v := .ref q1) (ty := .array .int) (C := RX0) (T := TX0) (N := 6) hx hb hts hw tyX0 tyX0_ok nmX0 hown hK hP hD hS 0 rfl rfl 0 (by decide) (hts (.fieldLink RX0 9 "FlowLedger$Network" "from" "[I") (by decide +kernel)) (fun _ h9 => h9) rfl hin rfl (by decide +kernel) rfl rfl (Nat.le_of_ble_eq_true rfl) dX0_init_9 (fun H locs hP hD hS => ?_)
  have hP : va_P D vwCl [(h0, .inr (0, [.ref q1, .null, .null, .null, .null, .int 0])), (q1, .inl (c1, 20, .inl fl_0))] H := hP
  have hD : va_D A [(h0, .inr (0, [.ref q1, .null, .null, .null, .null, .int 0])), (q1, .inl (c1, 20, .inl fl_0))] := hD
  refine lv_aload_n hx hb dX0_init_12 rfl (lv_at hl 0 rfl) ?_
  refine lv_bipush (v := 20) hx hb dX0_init_13 (by decide) ?_
  refine va_newa (atype := .int) (ty := .int) (N' := 20) (a0 := (20, .inl fl_0)) hx hb (hts (.arrayClass .int) (by decide +kernel)) rfl hK hP hD hS hA (fl_nwi 20) (by decide) (by decide) (by decide) (Nat.le_of_ble_eq_true rfl) (Nat.le_of_ble_eq_true rfl) dX0_init_15 (fun q2 c2 H hK hP hD hS => ?_)
  have hK : va_K D vwCl [(c1, .int), (c2, .int)] s := hK
  have hP : va_P D vwCl [(h0, .inr (0, [.ref q1, .null, .null, .null, .null, .int 0])), (q1, .inl (c1, 20, .inl fl_0)), (q2, .inl (c2, 20, .inl fl_0))] H := hP
  have hD : va_D A [(h0, .inr (0, [.ref q1, .null, .null, .null, .null, .int 0])), (q1, .inl (c1, 20, .inl fl_0)), (q2, .inl (c2, 20, .inl fl_0))] := hD
  refine W.widen (k := 2) (n := 40) (by omega) (by omega) ?_
  refine va_putF (D := D) (ci := 0) (v := .ref q2) (ty := .array .int) (C := RX0) (T := TX0) (N := 6) hx hb hts hw tyX0 tyX0_ok nmX0 hown hK hP hD hS 0 rfl rfl 1 (by decide) (hts (.fieldLink RX0 15 "FlowLedger$Network" "to" "[I") (by decide +kernel)) (fun _ h9 => h9) rfl hin rfl (by decide +kernel) rfl rfl (Nat.le_of_ble_eq_true rfl) dX0_init_17 (fun H locs hP hD hS => ?_)
  have hP : va_P D vwCl [(h0, .inr (0, [.ref q1, .ref q2, .null, .null, .null, .int 0])), (q1, .inl (c1, 20, .inl fl_0)), (q2, .inl (c2, 20, .inl fl_0))] H := hP
  have hD : va_D A [(h0, .inr (0, [.ref q1, .ref q2, .null, .null, .null, .int 0])), (q1, .inl (c1, 20, .inl fl_0)), (q2, .inl (c2, 20, .inl fl_0))] := hD
  refine lv_aload_n hx hb dX0_init_20 rfl (lv_at hl 0 rfl) ?_
  refine lv_bipush (v := 20) hx hb dX0_init_21 (by decide) ?_
  refine va_newa (atype := .int) (ty := .int) (N' := 20) (a0 := (20, .inl fl_0)) hx hb (hts (.arrayClass .int) (by decide +kernel)) rfl hK hP hD hS hA (fl_nwi 20) (by decide) (by decide) (by decide) (Nat.le_of_ble_eq_true rfl) (Nat.le_of_ble_eq_true rfl) dX0_init_23 (fun q3 c3 H hK hP hD hS => ?_)
  have hK : va_K D vwCl [(c1, .int), (c2, .int), (c3, .int)] s := hK
  have hP : va_P D vwCl [(h0, .inr (0, [.ref q1, .ref q2, .null, .null, .null, .int 0])), (q1, .inl (c1, 20, .inl fl_0)), (q2, .inl (c2, 20, .inl fl_0)), (q3, .inl (c3, 20, .inl fl_0))] H := hP
  have hD : va_D A [(h0, .inr (0, [.ref q1, .ref q2, .null, .null, .null, .int 0])), (q1, .inl (c1, 20, .inl fl_0)), (q2, .inl (c2, 20, .inl fl_0)), (q3, .inl (c3, 20, .inl fl_0))] := hD
  refine W.widen (k := 3) (n := 60) (by omega) (by omega) ?_
  refine va_putF (D := D) (ci := 0) (v := .ref q3) (ty := .array .int) (C := RX0) (T := TX0) (N := 6) hx hb hts hw tyX0 tyX0_ok nmX0 hown hK hP hD hS 0 rfl rfl 2 (by decide) (hts (.fieldLink RX0 18 "FlowLedger$Network" "capacity" "[I") (by decide +kernel)) (fun _ h9 => h9) rfl hin rfl (by decide +kernel) rfl rfl (Nat.le_of_ble_eq_true rfl) dX0_init_25 (fun H locs hP hD hS => ?_)
  have hP : va_P D vwCl [(h0, .inr (0, [.ref q1, .ref q2, .ref q3, .null, .null, .int 0])), (q1, .inl (c1, 20, .inl fl_0)), (q2, .inl (c2, 20, .inl fl_0)), (q3, .inl (c3, 20, .inl fl_0))] H := hP
  have hD : va_D A [(h0, .inr (0, [.ref q1, .ref q2, .ref q3, .null, .null, .int 0])), (q1, .inl (c1, 20, .inl fl_0)), (q2, .inl (c2, 20, .inl fl_0)), (q3, .inl (c3, 20, .inl fl_0))] := hD
  refine lv_aload_n hx hb dX0_init_28 rfl (lv_at hl 0 rfl) ?_
  refine lv_bipush (v := 20) hx hb dX0_init_29 (by decide) ?_
  refine va_newa (atype := .int) (ty := .int) (N' := 20) (a0 := (20, .inl fl_0)) hx hb (hts (.arrayClass .int) (by decide +kernel)) rfl hK hP hD hS hA (fl_nwi 20) (by decide) (by decide) (by decide) (Nat.le_of_ble_eq_true rfl) (Nat.le_of_ble_eq_true rfl) dX0_init_31 (fun q4 c4 H hK hP hD hS => ?_)
  have hK : va_K D vwCl [(c1, .int), (c2, .int), (c3, .int), (c4, .int)] s := hK
  have hP : va_P D vwCl [(h0, .inr (0, [.ref q1, .ref q2, .ref q3, .null, .null, .int 0])), (q1, .inl (c1, 20, .inl fl_0)), (q2, .inl (c2, 20, .inl fl_0)), (q3, .inl (c3, 20, .inl fl_0)), (q4, .inl (c4, 20, .inl fl_0))] H := hP
  have hD : va_D A [(h0, .inr (0, [.ref q1, .ref q2, .ref q3, .null, .null, .int 0])), (q1, .inl (c1, 20, .inl fl_0)), (q2, .inl (c2, 20, .inl fl_0)), (q3, .inl (c3, 20, .inl fl_0)), (q4, .inl (c4, 20, .inl fl_0))] := hD
  refine W.widen (k := 4) (n := 80) (by omega) (by omega) ?_
  refine va_putF (D := D) (ci := 0) (v := .ref q4) (ty := .array .int) (C := RX0) (T := TX0) (N := 6) hx hb hts hw tyX0 tyX0_ok nmX0 hown hK hP hD hS 0 rfl rfl 3 (by decide) (hts (.fieldLink RX0 21 "FlowLedger$Network" "cost" "[I") (by decide +kernel)) (fun _ h9 => h9) rfl hin rfl (by decide +kernel) rfl rfl (Nat.le_of_ble_eq_true rfl) dX0_init_33 (fun H locs hP hD hS => ?_)
  have hP : va_P D vwCl [(h0, .inr (0, [.ref q1, .ref q2, .ref q3, .ref q4, .null, .int 0])), (q1, .inl (c1, 20, .inl fl_0)), (q2, .inl (c2, 20, .inl fl_0)), (q3, .inl (c3, 20, .inl fl_0)), (q4, .inl (c4, 20, .inl fl_0))] H := hP
  have hD : va_D A [(h0, .inr (0, [.ref q1, .ref q2, .ref q3, .ref q4, .null, .int 0])), (q1, .inl (c1, 20, .inl fl_0)), (q2, .inl (c2, 20, .inl fl_0)), (q3, .inl (c3, 20, .inl fl_0)), (q4, .inl (c4, 20, .inl fl_0))] := hD
  refine lv_aload_n hx hb dX0_init_36 rfl (lv_at hl 0 rfl) ?_
  refine lv_bipush (v := 8) hx hb dX0_init_37 (by decide) ?_
  refine va_newa (atype := .int) (ty := .int) (N' := 8) (a0 := (8, .inl fl_0)) hx hb (hts (.arrayClass .int) (by decide +kernel)) rfl hK hP hD hS hA (fl_nwi 8) (by decide) (by decide) (by decide) (Nat.le_of_ble_eq_true rfl) (Nat.le_of_ble_eq_true rfl) dX0_init_39 (fun q5 c5 H hK hP hD hS => ?_)
  have hK : va_K D vwCl [(c1, .int), (c2, .int), (c3, .int), (c4, .int), (c5, .int)] s := hK
  have hP : va_P D vwCl [(h0, .inr (0, [.ref q1, .ref q2, .ref q3, .ref q4, .null, .int 0])), (q1, .inl (c1, 20, .inl fl_0)), (q2, .inl (c2, 20, .inl fl_0)), (q3, .inl (c3, 20, .inl fl_0)), (q4, .inl (c4, 20, .inl fl_0)), (q5, .inl (c5, 8, .inl fl_0))] H := hP
  have hD : va_D A [(h0, .inr (0, [.ref q1, .ref q2, .ref q3, .ref q4, .null, .int 0])), (q1, .inl (c1, 20, .inl fl_0)), (q2, .inl (c2, 20, .inl fl_0)), (q3, .inl (c3, 20, .inl fl_0)), (q4, .inl (c4, 20, .inl fl_0)), (q5, .inl (c5, 8, .inl fl_0))] := hD
  refine W.widen (k := 5) (n := 88) (by omega) (by omega) ?_
  refine va_putF (D := D) (ci := 0) (v := .ref q5) (ty := .array .int) (C := RX0) (T := TX0) (N := 6) hx hb hts hw tyX0 tyX0_ok nmX0 hown hK hP hD hS 0 rfl rfl 4 (by decide) (hts (.fieldLink RX0 24 "FlowLedger$Network" "supply" "[I") (by decide +kernel)) (fun _ h9 => h9) rfl hin rfl (by decide +kernel) rfl rfl (Nat.le_of_ble_eq_true rfl) dX0_init_41 (fun H locs hP hD hS => ?_)
  have hP : va_P D vwCl [(h0, .inr (0, [.ref q1, .ref q2, .ref q3, .ref q4, .ref q5, .int 0])), (q1, .inl (c1, 20, .inl fl_0)), (q2, .inl (c2, 20, .inl fl_0)), (q3, .inl (c3, 20, .inl fl_0)), (q4, .inl (c4, 20, .inl fl_0)), (q5, .inl (c5, 8, .inl fl_0))] H := hP
  have hD : va_D A [(h0, .inr (0, [.ref q1, .ref q2, .ref q3, .ref q4, .ref q5, .int 0])), (q1, .inl (c1, 20, .inl fl_0)), (q2, .inl (c2, 20, .inl fl_0)), (q3, .inl (c3, 20, .inl fl_0)), (q4, .inl (c4, 20, .inl fl_0)), (q5, .inl (c5, 8, .inl fl_0))] := hD
  exact W.vret hx hb hr (fun t ht hW => ⟨⟨((fun k => [0, h0, 0, q1, q2, q3, q4, q5].getD k 0), (fun k => [c1, c2, c3, c4, c5].getD k c1)), rfl, trivial, by rw [ht]; exact hP, va_K.moved hW.alike hK, hD⟩, hS.F ht⟩) hS.2.2 dX0_init_44
set_option maxHeartbeats 4000000 in
set_option maxRecDepth 100000 in
theorem c_X1_init (l : Launch) (D : va_G) (h0 nb : Nat) (sz : Nat) : Met l yX1_init wsX1_init ({ frames := 1, cells := 7, slots := 184, locals := 12 }) (va_Pc [.ref h0, .ref nb] (fun U => U.heap.size = sz ∧ va_P D vwCl [(h0, .inr (1, [.null, .null, .null, .null, .null, .null, .null, .null]))] U.heap ∧ va_K D vwCl [] U ∧ va_D (fun _ => True) [(h0, .inr (1, [.null, .null, .null, .null, .null, .null, .null, .null]))])) (va_Qv (fun u : gA => True) (fun u t => va_P D vwCl (w1 h0 nb u.1 u.2) t.heap ∧ va_K D vwCl (w1T u.2) t ∧ va_D (va_A [(h0, .inr (1, [.null, .null, .null, .null, .null, .null, .null, .null]))] sz) (w1 h0 nb u.1 u.2)) (va_A [(h0, .inr (1, [.null, .null, .null, .null, .null, .null, .null, .null]))] sz)) 7 184 (va_A [(h0, .inr (1, [.null, .null, .null, .null, .null, .null, .null, .null]))] sz) := by
  refine Met.ofW (cc := cX1_init) (maxL := 2) (ret := none) (by decide) rfl ?_
  intro p e s m args below meth c s₁ B hml hv
  obtain ⟨rfl, hsz, hP, hK, hD0⟩ := hv
  have hx := B.exec
  have hb := B.bytes
  have hr := B.returns
  have hts := atoms_spec (ws := wsX1_init) B.pre
  have hown : s.vm.findClass RX1 = some m.cls := findClass_of_methodNamed B.named
  have hlocks := B.notSynchronized
  have hin : meth.name = "<init>" := (name_of_methodNamed B.named B.method).1
  subst hsz
  have hD := hD0.self (sz := s.heap.size)
  generalize hAe : va_A [(h0, .inr (1, [.null, .null, .null, .null, .null, .null, .null, .null]))] s.heap.size = A at hD ⊢
  have hA : ∀ q : Nat, s.heap.size ≤ q → A q := fun q h => by rw [← hAe]; exact Or.inr h
  have hS : va_S A s.heap s.heap [] := va_S.rf
  have hw : ∀ w ∈ wsX10, w ∈ wsX1_init := fun w h => List.mem_cons_of_mem _ (List.mem_append_right _ h)
  have hl := lv_entry ([.ref h0, .ref nb]) (n := 2) (Nat.le_of_ble_eq_true rfl)
  rw [lg_entry_eq]
  generalize (lg_sl ([.ref h0, .ref nb]) ++ List.replicate (2 - (lg_sl ([.ref h0, .ref nb])).length) Slot.unset).toArray = ls at hl ⊢
  have hl : lv_has ls 2 [(0, .ref h0), (1, .ref nb)] := hl
  refine lv_aload_n hx hb dX1_init_0 rfl (lv_at hl 0 rfl) ?_
  refine W.objInit hx hb hown (hts (.methodLink RX1 3 objectInit) (by decide +kernel)) (hts (.instanceMethod objectInit) (by decide +kernel)) (hts _ (List.mem_cons_of_mem _ (List.mem_append_left _ (List.mem_of_getElem? (i := 2) rfl)))) rfl (by rw [hml]; exact hl.1) rfl dX1_init_1 (Nat.le_of_ble_eq_true rfl) (Nat.le_of_ble_eq_true rfl) ?_
  refine W.eq (g2 := F0 m 4 ls []) rfl ?_
  refine lv_aload_n hx hb dX1_init_4 rfl (lv_at hl 0 rfl) ?_
  refine lv_bipush (v := 40) hx hb dX1_init_5 (by decide) ?_
  refine va_newa (atype := .int) (ty := .int) (N' := 40) (a0 := (40, .inl fl_0)) hx hb (hts (.arrayClass .int) (by decide +kernel)) rfl hK hP hD hS hA (fl_nwi 40) (by decide) (by decide) (by decide) (Nat.le_of_ble_eq_true rfl) (Nat.le_of_ble_eq_true rfl) dX1_init_7 (fun q1 c1 H hK hP hD hS => ?_)
  have hK : va_K D vwCl [(c1, .int)] s := hK
  have hP : va_P D vwCl [(h0, .inr (1, [.null, .null, .null, .null, .null, .null, .null, .null])), (q1, .inl (c1, 40, .inl fl_0))] H := hP
  have hD : va_D A [(h0, .inr (1, [.null, .null, .null, .null, .null, .null, .null, .null])), (q1, .inl (c1, 40, .inl fl_0))] := hD
  refine W.widen (k := 1) (n := 40) (by omega) (by omega) ?_
  refine va_putF (D := D) (ci := 1) (v := .ref q1) (ty := .array .int) (C := RX1) (T := TX1) (N := 8) hx hb hts hw tyX1 tyX1_ok nmX1 hown hK hP hD hS 0 rfl rfl 1 (by decide) (hts (.fieldLink RX1 9 "FlowLedger$Router" "tail" "[I") (by decide +kernel)) (fun _ h9 => h9) rfl hin rfl (by decide +kernel) rfl rfl (Nat.le_of_ble_eq_true rfl) dX1_init_9 (fun H locs hP hD hS => ?_)
  have hP : va_P D vwCl [(h0, .inr (1, [.null, .ref q1, .null, .null, .null, .null, .null, .null])), (q1, .inl (c1, 40, .inl fl_0))] H := hP
  have hD : va_D A [(h0, .inr (1, [.null, .ref q1, .null, .null, .null, .null, .null, .null])), (q1, .inl (c1, 40, .inl fl_0))] := hD
  refine lv_aload_n hx hb dX1_init_12 rfl (lv_at hl 0 rfl) ?_
  refine lv_bipush (v := 40) hx hb dX1_init_13 (by decide) ?_
  refine va_newa (atype := .int) (ty := .int) (N' := 40) (a0 := (40, .inl fl_0)) hx hb (hts (.arrayClass .int) (by decide +kernel)) rfl hK hP hD hS hA (fl_nwi 40) (by decide) (by decide) (by decide) (Nat.le_of_ble_eq_true rfl) (Nat.le_of_ble_eq_true rfl) dX1_init_15 (fun q2 c2 H hK hP hD hS => ?_)
  have hK : va_K D vwCl [(c1, .int), (c2, .int)] s := hK
  have hP : va_P D vwCl [(h0, .inr (1, [.null, .ref q1, .null, .null, .null, .null, .null, .null])), (q1, .inl (c1, 40, .inl fl_0)), (q2, .inl (c2, 40, .inl fl_0))] H := hP
  have hD : va_D A [(h0, .inr (1, [.null, .ref q1, .null, .null, .null, .null, .null, .null])), (q1, .inl (c1, 40, .inl fl_0)), (q2, .inl (c2, 40, .inl fl_0))] := hD
  refine W.widen (k := 2) (n := 80) (by omega) (by omega) ?_
  refine va_putF (D := D) (ci := 1) (v := .ref q2) (ty := .array .int) (C := RX1) (T := TX1) (N := 8) hx hb hts hw tyX1 tyX1_ok nmX1 hown hK hP hD hS 0 rfl rfl 2 (by decide) (hts (.fieldLink RX1 15 "FlowLedger$Router" "head" "[I") (by decide +kernel)) (fun _ h9 => h9) rfl hin rfl (by decide +kernel) rfl rfl (Nat.le_of_ble_eq_true rfl) dX1_init_17 (fun H locs hP hD hS => ?_)
  have hP : va_P D vwCl [(h0, .inr (1, [.null, .ref q1, .ref q2, .null, .null, .null, .null, .null])), (q1, .inl (c1, 40, .inl fl_0)), (q2, .inl (c2, 40, .inl fl_0))] H := hP
  have hD : va_D A [(h0, .inr (1, [.null, .ref q1, .ref q2, .null, .null, .null, .null, .null])), (q1, .inl (c1, 40, .inl fl_0)), (q2, .inl (c2, 40, .inl fl_0))] := hD
  refine lv_aload_n hx hb dX1_init_20 rfl (lv_at hl 0 rfl) ?_
  refine lv_bipush (v := 40) hx hb dX1_init_21 (by decide) ?_
  refine va_newa (atype := .int) (ty := .int) (N' := 40) (a0 := (40, .inl fl_0)) hx hb (hts (.arrayClass .int) (by decide +kernel)) rfl hK hP hD hS hA (fl_nwi 40) (by decide) (by decide) (by decide) (Nat.le_of_ble_eq_true rfl) (Nat.le_of_ble_eq_true rfl) dX1_init_23 (fun q3 c3 H hK hP hD hS => ?_)
  have hK : va_K D vwCl [(c1, .int), (c2, .int), (c3, .int)] s := hK
  have hP : va_P D vwCl [(h0, .inr (1, [.null, .ref q1, .ref q2, .null, .null, .null, .null, .null])), (q1, .inl (c1, 40, .inl fl_0)), (q2, .inl (c2, 40, .inl fl_0)), (q3, .inl (c3, 40, .inl fl_0))] H := hP
  have hD : va_D A [(h0, .inr (1, [.null, .ref q1, .ref q2, .null, .null, .null, .null, .null])), (q1, .inl (c1, 40, .inl fl_0)), (q2, .inl (c2, 40, .inl fl_0)), (q3, .inl (c3, 40, .inl fl_0))] := hD
  refine W.widen (k := 3) (n := 120) (by omega) (by omega) ?_
  refine va_putF (D := D) (ci := 1) (v := .ref q3) (ty := .array .int) (C := RX1) (T := TX1) (N := 8) hx hb hts hw tyX1 tyX1_ok nmX1 hown hK hP hD hS 0 rfl rfl 3 (by decide) (hts (.fieldLink RX1 18 "FlowLedger$Router" "weight" "[I") (by decide +kernel)) (fun _ h9 => h9) rfl hin rfl (by decide +kernel) rfl rfl (Nat.le_of_ble_eq_true rfl) dX1_init_25 (fun H locs hP hD hS => ?_)
  have hP : va_P D vwCl [(h0, .inr (1, [.null, .ref q1, .ref q2, .ref q3, .null, .null, .null, .null])), (q1, .inl (c1, 40, .inl fl_0)), (q2, .inl (c2, 40, .inl fl_0)), (q3, .inl (c3, 40, .inl fl_0))] H := hP
  have hD : va_D A [(h0, .inr (1, [.null, .ref q1, .ref q2, .ref q3, .null, .null, .null, .null])), (q1, .inl (c1, 40, .inl fl_0)), (q2, .inl (c2, 40, .inl fl_0)), (q3, .inl (c3, 40, .inl fl_0))] := hD
  refine lv_aload_n hx hb dX1_init_28 rfl (lv_at hl 0 rfl) ?_
  refine lv_bipush (v := 40) hx hb dX1_init_29 (by decide) ?_
  refine va_newa (atype := .int) (ty := .int) (N' := 40) (a0 := (40, .inl fl_0)) hx hb (hts (.arrayClass .int) (by decide +kernel)) rfl hK hP hD hS hA (fl_nwi 40) (by decide) (by decide) (by decide) (Nat.le_of_ble_eq_true rfl) (Nat.le_of_ble_eq_true rfl) dX1_init_31 (fun q4 c4 H hK hP hD hS => ?_)
  have hK : va_K D vwCl [(c1, .int), (c2, .int), (c3, .int), (c4, .int)] s := hK
  have hP : va_P D vwCl [(h0, .inr (1, [.null, .ref q1, .ref q2, .ref q3, .null, .null, .null, .null])), (q1, .inl (c1, 40, .inl fl_0)), (q2, .inl (c2, 40, .inl fl_0)), (q3, .inl (c3, 40, .inl fl_0)), (q4, .inl (c4, 40, .inl fl_0))] H := hP
  have hD : va_D A [(h0, .inr (1, [.null, .ref q1, .ref q2, .ref q3, .null, .null, .null, .null])), (q1, .inl (c1, 40, .inl fl_0)), (q2, .inl (c2, 40, .inl fl_0)), (q3, .inl (c3, 40, .inl fl_0)), (q4, .inl (c4, 40, .inl fl_0))] := hD
  refine W.widen (k := 4) (n := 160) (by omega) (by omega) ?_
  refine va_putF (D := D) (ci := 1) (v := .ref q4) (ty := .array .int) (C := RX1) (T := TX1) (N := 8) hx hb hts hw tyX1 tyX1_ok nmX1 hown hK hP hD hS 0 rfl rfl 4 (by decide) (hts (.fieldLink RX1 21 "FlowLedger$Router" "room" "[I") (by decide +kernel)) (fun _ h9 => h9) rfl hin rfl (by decide +kernel) rfl rfl (Nat.le_of_ble_eq_true rfl) dX1_init_33 (fun H locs hP hD hS => ?_)
  have hP : va_P D vwCl [(h0, .inr (1, [.null, .ref q1, .ref q2, .ref q3, .ref q4, .null, .null, .null])), (q1, .inl (c1, 40, .inl fl_0)), (q2, .inl (c2, 40, .inl fl_0)), (q3, .inl (c3, 40, .inl fl_0)), (q4, .inl (c4, 40, .inl fl_0))] H := hP
  have hD : va_D A [(h0, .inr (1, [.null, .ref q1, .ref q2, .ref q3, .ref q4, .null, .null, .null])), (q1, .inl (c1, 40, .inl fl_0)), (q2, .inl (c2, 40, .inl fl_0)), (q3, .inl (c3, 40, .inl fl_0)), (q4, .inl (c4, 40, .inl fl_0))] := hD
  refine lv_aload_n hx hb dX1_init_36 rfl (lv_at hl 0 rfl) ?_
  refine lv_bipush (v := 8) hx hb dX1_init_37 (by decide) ?_
  refine va_newa (atype := .int) (ty := .int) (N' := 8) (a0 := (8, .inl fl_0)) hx hb (hts (.arrayClass .int) (by decide +kernel)) rfl hK hP hD hS hA (fl_nwi 8) (by decide) (by decide) (by decide) (Nat.le_of_ble_eq_true rfl) (Nat.le_of_ble_eq_true rfl) dX1_init_39 (fun q5 c5 H hK hP hD hS => ?_)
  have hK : va_K D vwCl [(c1, .int), (c2, .int), (c3, .int), (c4, .int), (c5, .int)] s := hK
  have hP : va_P D vwCl [(h0, .inr (1, [.null, .ref q1, .ref q2, .ref q3, .ref q4, .null, .null, .null])), (q1, .inl (c1, 40, .inl fl_0)), (q2, .inl (c2, 40, .inl fl_0)), (q3, .inl (c3, 40, .inl fl_0)), (q4, .inl (c4, 40, .inl fl_0)), (q5, .inl (c5, 8, .inl fl_0))] H := hP
  have hD : va_D A [(h0, .inr (1, [.null, .ref q1, .ref q2, .ref q3, .ref q4, .null, .null, .null])), (q1, .inl (c1, 40, .inl fl_0)), (q2, .inl (c2, 40, .inl fl_0)), (q3, .inl (c3, 40, .inl fl_0)), (q4, .inl (c4, 40, .inl fl_0)), (q5, .inl (c5, 8, .inl fl_0))] := hD
  refine W.widen (k := 5) (n := 168) (by omega) (by omega) ?_
  refine va_putF (D := D) (ci := 1) (v := .ref q5) (ty := .array .int) (C := RX1) (T := TX1) (N := 8) hx hb hts hw tyX1 tyX1_ok nmX1 hown hK hP hD hS 0 rfl rfl 5 (by decide) (hts (.fieldLink RX1 24 "FlowLedger$Router" "excess" "[I") (by decide +kernel)) (fun _ h9 => h9) rfl hin rfl (by decide +kernel) rfl rfl (Nat.le_of_ble_eq_true rfl) dX1_init_41 (fun H locs hP hD hS => ?_)
  have hP : va_P D vwCl [(h0, .inr (1, [.null, .ref q1, .ref q2, .ref q3, .ref q4, .ref q5, .null, .null])), (q1, .inl (c1, 40, .inl fl_0)), (q2, .inl (c2, 40, .inl fl_0)), (q3, .inl (c3, 40, .inl fl_0)), (q4, .inl (c4, 40, .inl fl_0)), (q5, .inl (c5, 8, .inl fl_0))] H := hP
  have hD : va_D A [(h0, .inr (1, [.null, .ref q1, .ref q2, .ref q3, .ref q4, .ref q5, .null, .null])), (q1, .inl (c1, 40, .inl fl_0)), (q2, .inl (c2, 40, .inl fl_0)), (q3, .inl (c3, 40, .inl fl_0)), (q4, .inl (c4, 40, .inl fl_0)), (q5, .inl (c5, 8, .inl fl_0))] := hD
  refine lv_aload_n hx hb dX1_init_44 rfl (lv_at hl 0 rfl) ?_
  refine lv_bipush (v := 8) hx hb dX1_init_45 (by decide) ?_
  refine va_newa (atype := .int) (ty := .int) (N' := 8) (a0 := (8, .inl fl_0)) hx hb (hts (.arrayClass .int) (by decide +kernel)) rfl hK hP hD hS hA (fl_nwi 8) (by decide) (by decide) (by decide) (Nat.le_of_ble_eq_true rfl) (Nat.le_of_ble_eq_true rfl) dX1_init_47 (fun q6 c6 H hK hP hD hS => ?_)
  have hK : va_K D vwCl [(c1, .int), (c2, .int), (c3, .int), (c4, .int), (c5, .int), (c6, .int)] s := hK
  have hP : va_P D vwCl [(h0, .inr (1, [.null, .ref q1, .ref q2, .ref q3, .ref q4, .ref q5, .null, .null])), (q1, .inl (c1, 40, .inl fl_0)), (q2, .inl (c2, 40, .inl fl_0)), (q3, .inl (c3, 40, .inl fl_0)), (q4, .inl (c4, 40, .inl fl_0)), (q5, .inl (c5, 8, .inl fl_0)), (q6, .inl (c6, 8, .inl fl_0))] H := hP
  have hD : va_D A [(h0, .inr (1, [.null, .ref q1, .ref q2, .ref q3, .ref q4, .ref q5, .null, .null])), (q1, .inl (c1, 40, .inl fl_0)), (q2, .inl (c2, 40, .inl fl_0)), (q3, .inl (c3, 40, .inl fl_0)), (q4, .inl (c4, 40, .inl fl_0)), (q5, .inl (c5, 8, .inl fl_0)), (q6, .inl (c6, 8, .inl fl_0))] := hD
  refine W.widen (k := 6) (n := 176) (by omega) (by omega) ?_
  refine va_putF (D := D) (ci := 1) (v := .ref q6) (ty := .array .int) (C := RX1) (T := TX1) (N := 8) hx hb hts hw tyX1 tyX1_ok nmX1 hown hK hP hD hS 0 rfl rfl 6 (by decide) (hts (.fieldLink RX1 27 "FlowLedger$Router" "distance" "[I") (by decide +kernel)) (fun _ h9 => h9) rfl hin rfl (by decide +kernel) rfl rfl (Nat.le_of_ble_eq_true rfl) dX1_init_49 (fun H locs hP hD hS => ?_)
  have hP : va_P D vwCl [(h0, .inr (1, [.null, .ref q1, .ref q2, .ref q3, .ref q4, .ref q5, .ref q6, .null])), (q1, .inl (c1, 40, .inl fl_0)), (q2, .inl (c2, 40, .inl fl_0)), (q3, .inl (c3, 40, .inl fl_0)), (q4, .inl (c4, 40, .inl fl_0)), (q5, .inl (c5, 8, .inl fl_0)), (q6, .inl (c6, 8, .inl fl_0))] H := hP
  have hD : va_D A [(h0, .inr (1, [.null, .ref q1, .ref q2, .ref q3, .ref q4, .ref q5, .ref q6, .null])), (q1, .inl (c1, 40, .inl fl_0)), (q2, .inl (c2, 40, .inl fl_0)), (q3, .inl (c3, 40, .inl fl_0)), (q4, .inl (c4, 40, .inl fl_0)), (q5, .inl (c5, 8, .inl fl_0)), (q6, .inl (c6, 8, .inl fl_0))] := hD
  refine lv_aload_n hx hb dX1_init_52 rfl (lv_at hl 0 rfl) ?_
  refine lv_bipush (v := 8) hx hb dX1_init_53 (by decide) ?_
  refine va_newa (atype := .int) (ty := .int) (N' := 8) (a0 := (8, .inl fl_0)) hx hb (hts (.arrayClass .int) (by decide +kernel)) rfl hK hP hD hS hA (fl_nwi 8) (by decide) (by decide) (by decide) (Nat.le_of_ble_eq_true rfl) (Nat.le_of_ble_eq_true rfl) dX1_init_55 (fun q7 c7 H hK hP hD hS => ?_)
  have hK : va_K D vwCl [(c1, .int), (c2, .int), (c3, .int), (c4, .int), (c5, .int), (c6, .int), (c7, .int)] s := hK
  have hP : va_P D vwCl [(h0, .inr (1, [.null, .ref q1, .ref q2, .ref q3, .ref q4, .ref q5, .ref q6, .null])), (q1, .inl (c1, 40, .inl fl_0)), (q2, .inl (c2, 40, .inl fl_0)), (q3, .inl (c3, 40, .inl fl_0)), (q4, .inl (c4, 40, .inl fl_0)), (q5, .inl (c5, 8, .inl fl_0)), (q6, .inl (c6, 8, .inl fl_0)), (q7, .inl (c7, 8, .inl fl_0))] H := hP
  have hD : va_D A [(h0, .inr (1, [.null, .ref q1, .ref q2, .ref q3, .ref q4, .ref q5, .ref q6, .null])), (q1, .inl (c1, 40, .inl fl_0)), (q2, .inl (c2, 40, .inl fl_0)), (q3, .inl (c3, 40, .inl fl_0)), (q4, .inl (c4, 40, .inl fl_0)), (q5, .inl (c5, 8, .inl fl_0)), (q6, .inl (c6, 8, .inl fl_0)), (q7, .inl (c7, 8, .inl fl_0))] := hD
  refine W.widen (k := 7) (n := 184) (by omega) (by omega) ?_
  refine va_putF (D := D) (ci := 1) (v := .ref q7) (ty := .array .int) (C := RX1) (T := TX1) (N := 8) hx hb hts hw tyX1 tyX1_ok nmX1 hown hK hP hD hS 0 rfl rfl 7 (by decide) (hts (.fieldLink RX1 30 "FlowLedger$Router" "entry" "[I") (by decide +kernel)) (fun _ h9 => h9) rfl hin rfl (by decide +kernel) rfl rfl (Nat.le_of_ble_eq_true rfl) dX1_init_57 (fun H locs hP hD hS => ?_)
  have hP : va_P D vwCl [(h0, .inr (1, [.null, .ref q1, .ref q2, .ref q3, .ref q4, .ref q5, .ref q6, .ref q7])), (q1, .inl (c1, 40, .inl fl_0)), (q2, .inl (c2, 40, .inl fl_0)), (q3, .inl (c3, 40, .inl fl_0)), (q4, .inl (c4, 40, .inl fl_0)), (q5, .inl (c5, 8, .inl fl_0)), (q6, .inl (c6, 8, .inl fl_0)), (q7, .inl (c7, 8, .inl fl_0))] H := hP
  have hD : va_D A [(h0, .inr (1, [.null, .ref q1, .ref q2, .ref q3, .ref q4, .ref q5, .ref q6, .ref q7])), (q1, .inl (c1, 40, .inl fl_0)), (q2, .inl (c2, 40, .inl fl_0)), (q3, .inl (c3, 40, .inl fl_0)), (q4, .inl (c4, 40, .inl fl_0)), (q5, .inl (c5, 8, .inl fl_0)), (q6, .inl (c6, 8, .inl fl_0)), (q7, .inl (c7, 8, .inl fl_0))] := hD
  refine lv_aload_n hx hb dX1_init_60 rfl (lv_at hl 0 rfl) ?_
  refine lv_aload_n hx hb dX1_init_61 rfl (lv_at hl 1 rfl) ?_
  refine va_putF (D := D) (ci := 1) (v := .ref nb) (ty := .object "FlowLedger$Network") (C := RX1) (T := TX1) (N := 8) hx hb hts hw tyX1 tyX1_ok nmX1 hown hK hP hD hS 0 rfl rfl 0 (by decide) (hts (.fieldLink RX1 33 "FlowLedger$Router" "network" "LFlowLedger$Network;") (by decide +kernel)) (fun _ h9 => h9) rfl hin rfl (by decide +kernel) rfl rfl (Nat.le_of_ble_eq_true rfl) dX1_init_62 (fun H locs hP hD hS => ?_)
  have hP : va_P D vwCl [(h0, .inr (1, [.ref nb, .ref q1, .ref q2, .ref q3, .ref q4, .ref q5, .ref q6, .ref q7])), (q1, .inl (c1, 40, .inl fl_0)), (q2, .inl (c2, 40, .inl fl_0)), (q3, .inl (c3, 40, .inl fl_0)), (q4, .inl (c4, 40, .inl fl_0)), (q5, .inl (c5, 8, .inl fl_0)), (q6, .inl (c6, 8, .inl fl_0)), (q7, .inl (c7, 8, .inl fl_0))] H := hP
  have hD : va_D A [(h0, .inr (1, [.ref nb, .ref q1, .ref q2, .ref q3, .ref q4, .ref q5, .ref q6, .ref q7])), (q1, .inl (c1, 40, .inl fl_0)), (q2, .inl (c2, 40, .inl fl_0)), (q3, .inl (c3, 40, .inl fl_0)), (q4, .inl (c4, 40, .inl fl_0)), (q5, .inl (c5, 8, .inl fl_0)), (q6, .inl (c6, 8, .inl fl_0)), (q7, .inl (c7, 8, .inl fl_0))] := hD
  exact W.vret hx hb hr (fun t ht hW => ⟨⟨((fun k => [0, 0, 0, 0, 0, 0, 0, 0, q1, q2, q3, q4, q5, q6, q7].getD k 0), (fun k => [c1, c1, c1, c1, c1, c1, c2, c3, c4, c5, c6, c7].getD k c1)), rfl, trivial, by rw [ht]; exact hP, va_K.moved hW.alike hK, hD⟩, hS.F ht⟩) hS.2.2 dX1_init_65
set_option maxHeartbeats 4000000 in
set_option maxRecDepth 100000 in
theorem c_X3_init (l : Launch) (D : va_G) (h0 : Nat) (sz : Nat) : Met l yX3_init wsX3_init ({ frames := 1, cells := 13, slots := 310, locals := 12 }) (va_Pc [.ref h0] (fun U => U.heap.size = sz ∧ va_P D vwCl [(h0, .inr (3, [.int 0, .null, .null, .null, .null, .null, .null, .null, .int 0, .null, .null, .null, .null, .int 0, .null, .null]))] U.heap ∧ va_K D vwCl [] U ∧ va_D (fun _ => True) [(h0, .inr (3, [.int 0, .null, .null, .null, .null, .null, .null, .null, .int 0, .null, .null, .null, .null, .int 0, .null, .null]))])) (va_Qv (fun u : gA => u.1 0 = h0) (fun u t => va_P D vwCl (wm u.1 u.2 fl_σ) t.heap ∧ va_K D vwCl (wmT u.2) t ∧ va_D (va_A [(h0, .inr (3, [.int 0, .null, .null, .null, .null, .null, .null, .null, .int 0, .null, .null, .null, .null, .int 0, .null, .null]))] sz) (wm u.1 u.2 fl_σ)) (va_A [(h0, .inr (3, [.int 0, .null, .null, .null, .null, .null, .null, .null, .int 0, .null, .null, .null, .null, .int 0, .null, .null]))] sz)) 13 310 (va_A [(h0, .inr (3, [.int 0, .null, .null, .null, .null, .null, .null, .null, .int 0, .null, .null, .null, .null, .int 0, .null, .null]))] sz) := by
  refine Met.ofW (cc := cX3_init) (maxL := 1) (ret := none) (by decide) rfl ?_
  intro p e s m args below meth c s₁ B hml hv
  obtain ⟨rfl, hsz, hP, hK, hD0⟩ := hv
  have hx := B.exec
  have hb := B.bytes
  have hr := B.returns
  have hts := atoms_spec (ws := wsX3_init) B.pre
  have hown : s.vm.findClass RX3 = some m.cls := findClass_of_methodNamed B.named
  have hlocks := B.notSynchronized
  have hin : meth.name = "<init>" := (name_of_methodNamed B.named B.method).1
  subst hsz
  have hD := hD0.self (sz := s.heap.size)
  generalize hAe : va_A [(h0, .inr (3, [.int 0, .null, .null, .null, .null, .null, .null, .null, .int 0, .null, .null, .null, .null, .int 0, .null, .null]))] s.heap.size = A at hD ⊢
  have hA : ∀ q : Nat, s.heap.size ≤ q → A q := fun q h => by rw [← hAe]; exact Or.inr h
  have hS : va_S A s.heap s.heap [] := va_S.rf
  have hw : ∀ w ∈ wsX30, w ∈ wsX3_init := fun w h => List.mem_cons_of_mem _ (List.mem_append_right _ h)
  have hl := lv_entry ([.ref h0]) (n := 1) (Nat.le_of_ble_eq_true rfl)
  rw [lg_entry_eq]
  generalize (lg_sl ([.ref h0]) ++ List.replicate (1 - (lg_sl ([.ref h0])).length) Slot.unset).toArray = ls at hl ⊢
  have hl : lv_has ls 1 [(0, .ref h0)] := hl
  refine lv_aload_n hx hb dX3_init_0 rfl (lv_at hl 0 rfl) ?_
  refine W.objInit hx hb hown (hts (.methodLink RX3 1 objectInit) (by decide +kernel)) (hts (.instanceMethod objectInit) (by decide +kernel)) (hts _ (List.mem_cons_of_mem _ (List.mem_append_left _ (List.mem_of_getElem? (i := 2) rfl)))) rfl (by rw [hml]; exact hl.1) rfl dX3_init_1 (Nat.le_of_ble_eq_true rfl) (Nat.le_of_ble_eq_true rfl) ?_
  refine W.eq (g2 := F0 m 4 ls []) rfl ?_
  refine lv_aload_n hx hb dX3_init_4 rfl (lv_at hl 0 rfl) ?_
  refine lv_bipush (v := 36) hx hb dX3_init_5 (by decide) ?_
  refine va_newa (atype := .int) (ty := .int) (N' := 36) (a0 := (36, .inl fl_0)) hx hb (hts (.arrayClass .int) (by decide +kernel)) rfl hK hP hD hS hA (fl_nwi 36) (by decide) (by decide) (by decide) (Nat.le_of_ble_eq_true rfl) (Nat.le_of_ble_eq_true rfl) dX3_init_7 (fun q1 c1 H hK hP hD hS => ?_)
  have hK : va_K D vwCl [(c1, .int)] s := hK
  have hP : va_P D vwCl [(h0, .inr (3, [.int 0, .null, .null, .null, .null, .null, .null, .null, .int 0, .null, .null, .null, .null, .int 0, .null, .null])), (q1, .inl (c1, 36, .inl fl_0))] H := hP
  have hD : va_D A [(h0, .inr (3, [.int 0, .null, .null, .null, .null, .null, .null, .null, .int 0, .null, .null, .null, .null, .int 0, .null, .null])), (q1, .inl (c1, 36, .inl fl_0))] := hD
  refine W.widen (k := 1) (n := 36) (by omega) (by omega) ?_
  refine va_putF (D := D) (ci := 3) (v := .ref q1) (ty := .array .int) (C := RX3) (T := TX3) (N := 16) hx hb hts hw tyX3 tyX3_ok nmX3 hown hK hP hD hS 0 rfl rfl 1 (by decide) (hts (.fieldLink RX3 7 "FlowLedgerModel" "froms" "[I") (by decide +kernel)) (fun _ h9 => h9) rfl hin rfl (by decide +kernel) rfl rfl (Nat.le_of_ble_eq_true rfl) dX3_init_9 (fun H locs hP hD hS => ?_)
  have hP : va_P D vwCl [(h0, .inr (3, [.int 0, .ref q1, .null, .null, .null, .null, .null, .null, .int 0, .null, .null, .null, .null, .int 0, .null, .null])), (q1, .inl (c1, 36, .inl fl_0))] H := hP
  have hD : va_D A [(h0, .inr (3, [.int 0, .ref q1, .null, .null, .null, .null, .null, .null, .int 0, .null, .null, .null, .null, .int 0, .null, .null])), (q1, .inl (c1, 36, .inl fl_0))] := hD
  refine lv_aload_n hx hb dX3_init_12 rfl (lv_at hl 0 rfl) ?_
  refine lv_bipush (v := 36) hx hb dX3_init_13 (by decide) ?_
  refine va_newa (atype := .int) (ty := .int) (N' := 36) (a0 := (36, .inl fl_0)) hx hb (hts (.arrayClass .int) (by decide +kernel)) rfl hK hP hD hS hA (fl_nwi 36) (by decide) (by decide) (by decide) (Nat.le_of_ble_eq_true rfl) (Nat.le_of_ble_eq_true rfl) dX3_init_15 (fun q2 c2 H hK hP hD hS => ?_)
  have hK : va_K D vwCl [(c1, .int), (c2, .int)] s := hK
  have hP : va_P D vwCl [(h0, .inr (3, [.int 0, .ref q1, .null, .null, .null, .null, .null, .null, .int 0, .null, .null, .null, .null, .int 0, .null, .null])), (q1, .inl (c1, 36, .inl fl_0)), (q2, .inl (c2, 36, .inl fl_0))] H := hP
  have hD : va_D A [(h0, .inr (3, [.int 0, .ref q1, .null, .null, .null, .null, .null, .null, .int 0, .null, .null, .null, .null, .int 0, .null, .null])), (q1, .inl (c1, 36, .inl fl_0)), (q2, .inl (c2, 36, .inl fl_0))] := hD
  refine W.widen (k := 2) (n := 72) (by omega) (by omega) ?_
  refine va_putF (D := D) (ci := 3) (v := .ref q2) (ty := .array .int) (C := RX3) (T := TX3) (N := 16) hx hb hts hw tyX3 tyX3_ok nmX3 hown hK hP hD hS 0 rfl rfl 2 (by decide) (hts (.fieldLink RX3 13 "FlowLedgerModel" "tos" "[I") (by decide +kernel)) (fun _ h9 => h9) rfl hin rfl (by decide +kernel) rfl rfl (Nat.le_of_ble_eq_true rfl) dX3_init_17 (fun H locs hP hD hS => ?_)
  have hP : va_P D vwCl [(h0, .inr (3, [.int 0, .ref q1, .ref q2, .null, .null, .null, .null, .null, .int 0, .null, .null, .null, .null, .int 0, .null, .null])), (q1, .inl (c1, 36, .inl fl_0)), (q2, .inl (c2, 36, .inl fl_0))] H := hP
  have hD : va_D A [(h0, .inr (3, [.int 0, .ref q1, .ref q2, .null, .null, .null, .null, .null, .int 0, .null, .null, .null, .null, .int 0, .null, .null])), (q1, .inl (c1, 36, .inl fl_0)), (q2, .inl (c2, 36, .inl fl_0))] := hD
  refine lv_aload_n hx hb dX3_init_20 rfl (lv_at hl 0 rfl) ?_
  refine lv_bipush (v := 36) hx hb dX3_init_21 (by decide) ?_
  refine va_newa (atype := .int) (ty := .int) (N' := 36) (a0 := (36, .inl fl_0)) hx hb (hts (.arrayClass .int) (by decide +kernel)) rfl hK hP hD hS hA (fl_nwi 36) (by decide) (by decide) (by decide) (Nat.le_of_ble_eq_true rfl) (Nat.le_of_ble_eq_true rfl) dX3_init_23 (fun q3 c3 H hK hP hD hS => ?_)
  have hK : va_K D vwCl [(c1, .int), (c2, .int), (c3, .int)] s := hK
  have hP : va_P D vwCl [(h0, .inr (3, [.int 0, .ref q1, .ref q2, .null, .null, .null, .null, .null, .int 0, .null, .null, .null, .null, .int 0, .null, .null])), (q1, .inl (c1, 36, .inl fl_0)), (q2, .inl (c2, 36, .inl fl_0)), (q3, .inl (c3, 36, .inl fl_0))] H := hP
  have hD : va_D A [(h0, .inr (3, [.int 0, .ref q1, .ref q2, .null, .null, .null, .null, .null, .int 0, .null, .null, .null, .null, .int 0, .null, .null])), (q1, .inl (c1, 36, .inl fl_0)), (q2, .inl (c2, 36, .inl fl_0)), (q3, .inl (c3, 36, .inl fl_0))] := hD
  refine W.widen (k := 3) (n := 108) (by omega) (by omega) ?_
  refine va_putF (D := D) (ci := 3) (v := .ref q3) (ty := .array .int) (C := RX3) (T := TX3) (N := 16) hx hb hts hw tyX3 tyX3_ok nmX3 hown hK hP hD hS 0 rfl rfl 3 (by decide) (hts (.fieldLink RX3 16 "FlowLedgerModel" "capacities" "[I") (by decide +kernel)) (fun _ h9 => h9) rfl hin rfl (by decide +kernel) rfl rfl (Nat.le_of_ble_eq_true rfl) dX3_init_25 (fun H locs hP hD hS => ?_)
  have hP : va_P D vwCl [(h0, .inr (3, [.int 0, .ref q1, .ref q2, .ref q3, .null, .null, .null, .null, .int 0, .null, .null, .null, .null, .int 0, .null, .null])), (q1, .inl (c1, 36, .inl fl_0)), (q2, .inl (c2, 36, .inl fl_0)), (q3, .inl (c3, 36, .inl fl_0))] H := hP
  have hD : va_D A [(h0, .inr (3, [.int 0, .ref q1, .ref q2, .ref q3, .null, .null, .null, .null, .int 0, .null, .null, .null, .null, .int 0, .null, .null])), (q1, .inl (c1, 36, .inl fl_0)), (q2, .inl (c2, 36, .inl fl_0)), (q3, .inl (c3, 36, .inl fl_0))] := hD
  refine lv_aload_n hx hb dX3_init_28 rfl (lv_at hl 0 rfl) ?_
  refine lv_bipush (v := 36) hx hb dX3_init_29 (by decide) ?_
  refine va_newa (atype := .int) (ty := .int) (N' := 36) (a0 := (36, .inl fl_0)) hx hb (hts (.arrayClass .int) (by decide +kernel)) rfl hK hP hD hS hA (fl_nwi 36) (by decide) (by decide) (by decide) (Nat.le_of_ble_eq_true rfl) (Nat.le_of_ble_eq_true rfl) dX3_init_31 (fun q4 c4 H hK hP hD hS => ?_)
  have hK : va_K D vwCl [(c1, .int), (c2, .int), (c3, .int), (c4, .int)] s := hK
  have hP : va_P D vwCl [(h0, .inr (3, [.int 0, .ref q1, .ref q2, .ref q3, .null, .null, .null, .null, .int 0, .null, .null, .null, .null, .int 0, .null, .null])), (q1, .inl (c1, 36, .inl fl_0)), (q2, .inl (c2, 36, .inl fl_0)), (q3, .inl (c3, 36, .inl fl_0)), (q4, .inl (c4, 36, .inl fl_0))] H := hP
  have hD : va_D A [(h0, .inr (3, [.int 0, .ref q1, .ref q2, .ref q3, .null, .null, .null, .null, .int 0, .null, .null, .null, .null, .int 0, .null, .null])), (q1, .inl (c1, 36, .inl fl_0)), (q2, .inl (c2, 36, .inl fl_0)), (q3, .inl (c3, 36, .inl fl_0)), (q4, .inl (c4, 36, .inl fl_0))] := hD
  refine W.widen (k := 4) (n := 144) (by omega) (by omega) ?_
  refine va_putF (D := D) (ci := 3) (v := .ref q4) (ty := .array .int) (C := RX3) (T := TX3) (N := 16) hx hb hts hw tyX3 tyX3_ok nmX3 hown hK hP hD hS 0 rfl rfl 4 (by decide) (hts (.fieldLink RX3 19 "FlowLedgerModel" "costs" "[I") (by decide +kernel)) (fun _ h9 => h9) rfl hin rfl (by decide +kernel) rfl rfl (Nat.le_of_ble_eq_true rfl) dX3_init_33 (fun H locs hP hD hS => ?_)
  have hP : va_P D vwCl [(h0, .inr (3, [.int 0, .ref q1, .ref q2, .ref q3, .ref q4, .null, .null, .null, .int 0, .null, .null, .null, .null, .int 0, .null, .null])), (q1, .inl (c1, 36, .inl fl_0)), (q2, .inl (c2, 36, .inl fl_0)), (q3, .inl (c3, 36, .inl fl_0)), (q4, .inl (c4, 36, .inl fl_0))] H := hP
  have hD : va_D A [(h0, .inr (3, [.int 0, .ref q1, .ref q2, .ref q3, .ref q4, .null, .null, .null, .int 0, .null, .null, .null, .null, .int 0, .null, .null])), (q1, .inl (c1, 36, .inl fl_0)), (q2, .inl (c2, 36, .inl fl_0)), (q3, .inl (c3, 36, .inl fl_0)), (q4, .inl (c4, 36, .inl fl_0))] := hD
  refine lv_aload_n hx hb dX3_init_36 rfl (lv_at hl 0 rfl) ?_
  refine lv_bipush (v := 8) hx hb dX3_init_37 (by decide) ?_
  refine va_newa (atype := .int) (ty := .int) (N' := 8) (a0 := (8, .inl fl_0)) hx hb (hts (.arrayClass .int) (by decide +kernel)) rfl hK hP hD hS hA (fl_nwi 8) (by decide) (by decide) (by decide) (Nat.le_of_ble_eq_true rfl) (Nat.le_of_ble_eq_true rfl) dX3_init_39 (fun q5 c5 H hK hP hD hS => ?_)
  have hK : va_K D vwCl [(c1, .int), (c2, .int), (c3, .int), (c4, .int), (c5, .int)] s := hK
  have hP : va_P D vwCl [(h0, .inr (3, [.int 0, .ref q1, .ref q2, .ref q3, .ref q4, .null, .null, .null, .int 0, .null, .null, .null, .null, .int 0, .null, .null])), (q1, .inl (c1, 36, .inl fl_0)), (q2, .inl (c2, 36, .inl fl_0)), (q3, .inl (c3, 36, .inl fl_0)), (q4, .inl (c4, 36, .inl fl_0)), (q5, .inl (c5, 8, .inl fl_0))] H := hP
  have hD : va_D A [(h0, .inr (3, [.int 0, .ref q1, .ref q2, .ref q3, .ref q4, .null, .null, .null, .int 0, .null, .null, .null, .null, .int 0, .null, .null])), (q1, .inl (c1, 36, .inl fl_0)), (q2, .inl (c2, 36, .inl fl_0)), (q3, .inl (c3, 36, .inl fl_0)), (q4, .inl (c4, 36, .inl fl_0)), (q5, .inl (c5, 8, .inl fl_0))] := hD
  refine W.widen (k := 5) (n := 152) (by omega) (by omega) ?_
  refine va_putF (D := D) (ci := 3) (v := .ref q5) (ty := .array .int) (C := RX3) (T := TX3) (N := 16) hx hb hts hw tyX3 tyX3_ok nmX3 hown hK hP hD hS 0 rfl rfl 5 (by decide) (hts (.fieldLink RX3 22 "FlowLedgerModel" "supplies" "[I") (by decide +kernel)) (fun _ h9 => h9) rfl hin rfl (by decide +kernel) rfl rfl (Nat.le_of_ble_eq_true rfl) dX3_init_41 (fun H locs hP hD hS => ?_)
  have hP : va_P D vwCl [(h0, .inr (3, [.int 0, .ref q1, .ref q2, .ref q3, .ref q4, .ref q5, .null, .null, .int 0, .null, .null, .null, .null, .int 0, .null, .null])), (q1, .inl (c1, 36, .inl fl_0)), (q2, .inl (c2, 36, .inl fl_0)), (q3, .inl (c3, 36, .inl fl_0)), (q4, .inl (c4, 36, .inl fl_0)), (q5, .inl (c5, 8, .inl fl_0))] H := hP
  have hD : va_D A [(h0, .inr (3, [.int 0, .ref q1, .ref q2, .ref q3, .ref q4, .ref q5, .null, .null, .int 0, .null, .null, .null, .null, .int 0, .null, .null])), (q1, .inl (c1, 36, .inl fl_0)), (q2, .inl (c2, 36, .inl fl_0)), (q3, .inl (c3, 36, .inl fl_0)), (q4, .inl (c4, 36, .inl fl_0)), (q5, .inl (c5, 8, .inl fl_0))] := hD
  refine lv_aload_n hx hb dX3_init_44 rfl (lv_at hl 0 rfl) ?_
  refine lv_bipush (v := 36) hx hb dX3_init_45 (by decide) ?_
  refine va_newa (atype := .int) (ty := .int) (N' := 36) (a0 := (36, .inl fl_0)) hx hb (hts (.arrayClass .int) (by decide +kernel)) rfl hK hP hD hS hA (fl_nwi 36) (by decide) (by decide) (by decide) (Nat.le_of_ble_eq_true rfl) (Nat.le_of_ble_eq_true rfl) dX3_init_47 (fun q6 c6 H hK hP hD hS => ?_)
  have hK : va_K D vwCl [(c1, .int), (c2, .int), (c3, .int), (c4, .int), (c5, .int), (c6, .int)] s := hK
  have hP : va_P D vwCl [(h0, .inr (3, [.int 0, .ref q1, .ref q2, .ref q3, .ref q4, .ref q5, .null, .null, .int 0, .null, .null, .null, .null, .int 0, .null, .null])), (q1, .inl (c1, 36, .inl fl_0)), (q2, .inl (c2, 36, .inl fl_0)), (q3, .inl (c3, 36, .inl fl_0)), (q4, .inl (c4, 36, .inl fl_0)), (q5, .inl (c5, 8, .inl fl_0)), (q6, .inl (c6, 36, .inl fl_0))] H := hP
  have hD : va_D A [(h0, .inr (3, [.int 0, .ref q1, .ref q2, .ref q3, .ref q4, .ref q5, .null, .null, .int 0, .null, .null, .null, .null, .int 0, .null, .null])), (q1, .inl (c1, 36, .inl fl_0)), (q2, .inl (c2, 36, .inl fl_0)), (q3, .inl (c3, 36, .inl fl_0)), (q4, .inl (c4, 36, .inl fl_0)), (q5, .inl (c5, 8, .inl fl_0)), (q6, .inl (c6, 36, .inl fl_0))] := hD
  refine W.widen (k := 6) (n := 188) (by omega) (by omega) ?_
  refine va_putF (D := D) (ci := 3) (v := .ref q6) (ty := .array .int) (C := RX3) (T := TX3) (N := 16) hx hb hts hw tyX3 tyX3_ok nmX3 hown hK hP hD hS 0 rfl rfl 6 (by decide) (hts (.fieldLink RX3 25 "FlowLedgerModel" "flow" "[I") (by decide +kernel)) (fun _ h9 => h9) rfl hin rfl (by decide +kernel) rfl rfl (Nat.le_of_ble_eq_true rfl) dX3_init_49 (fun H locs hP hD hS => ?_)
  have hP : va_P D vwCl [(h0, .inr (3, [.int 0, .ref q1, .ref q2, .ref q3, .ref q4, .ref q5, .ref q6, .null, .int 0, .null, .null, .null, .null, .int 0, .null, .null])), (q1, .inl (c1, 36, .inl fl_0)), (q2, .inl (c2, 36, .inl fl_0)), (q3, .inl (c3, 36, .inl fl_0)), (q4, .inl (c4, 36, .inl fl_0)), (q5, .inl (c5, 8, .inl fl_0)), (q6, .inl (c6, 36, .inl fl_0))] H := hP
  have hD : va_D A [(h0, .inr (3, [.int 0, .ref q1, .ref q2, .ref q3, .ref q4, .ref q5, .ref q6, .null, .int 0, .null, .null, .null, .null, .int 0, .null, .null])), (q1, .inl (c1, 36, .inl fl_0)), (q2, .inl (c2, 36, .inl fl_0)), (q3, .inl (c3, 36, .inl fl_0)), (q4, .inl (c4, 36, .inl fl_0)), (q5, .inl (c5, 8, .inl fl_0)), (q6, .inl (c6, 36, .inl fl_0))] := hD
  refine lv_aload_n hx hb dX3_init_52 rfl (lv_at hl 0 rfl) ?_
  refine lv_bipush (v := 36) hx hb dX3_init_53 (by decide) ?_
  refine va_newa (atype := .int) (ty := .int) (N' := 36) (a0 := (36, .inl fl_0)) hx hb (hts (.arrayClass .int) (by decide +kernel)) rfl hK hP hD hS hA (fl_nwi 36) (by decide) (by decide) (by decide) (Nat.le_of_ble_eq_true rfl) (Nat.le_of_ble_eq_true rfl) dX3_init_55 (fun q7 c7 H hK hP hD hS => ?_)
  have hK : va_K D vwCl [(c1, .int), (c2, .int), (c3, .int), (c4, .int), (c5, .int), (c6, .int), (c7, .int)] s := hK
  have hP : va_P D vwCl [(h0, .inr (3, [.int 0, .ref q1, .ref q2, .ref q3, .ref q4, .ref q5, .ref q6, .null, .int 0, .null, .null, .null, .null, .int 0, .null, .null])), (q1, .inl (c1, 36, .inl fl_0)), (q2, .inl (c2, 36, .inl fl_0)), (q3, .inl (c3, 36, .inl fl_0)), (q4, .inl (c4, 36, .inl fl_0)), (q5, .inl (c5, 8, .inl fl_0)), (q6, .inl (c6, 36, .inl fl_0)), (q7, .inl (c7, 36, .inl fl_0))] H := hP
  have hD : va_D A [(h0, .inr (3, [.int 0, .ref q1, .ref q2, .ref q3, .ref q4, .ref q5, .ref q6, .null, .int 0, .null, .null, .null, .null, .int 0, .null, .null])), (q1, .inl (c1, 36, .inl fl_0)), (q2, .inl (c2, 36, .inl fl_0)), (q3, .inl (c3, 36, .inl fl_0)), (q4, .inl (c4, 36, .inl fl_0)), (q5, .inl (c5, 8, .inl fl_0)), (q6, .inl (c6, 36, .inl fl_0)), (q7, .inl (c7, 36, .inl fl_0))] := hD
  refine W.widen (k := 7) (n := 224) (by omega) (by omega) ?_
  refine va_putF (D := D) (ci := 3) (v := .ref q7) (ty := .array .int) (C := RX3) (T := TX3) (N := 16) hx hb hts hw tyX3 tyX3_ok nmX3 hown hK hP hD hS 0 rfl rfl 7 (by decide) (hts (.fieldLink RX3 28 "FlowLedgerModel" "other" "[I") (by decide +kernel)) (fun _ h9 => h9) rfl hin rfl (by decide +kernel) rfl rfl (Nat.le_of_ble_eq_true rfl) dX3_init_57 (fun H locs hP hD hS => ?_)
  have hP : va_P D vwCl [(h0, .inr (3, [.int 0, .ref q1, .ref q2, .ref q3, .ref q4, .ref q5, .ref q6, .ref q7, .int 0, .null, .null, .null, .null, .int 0, .null, .null])), (q1, .inl (c1, 36, .inl fl_0)), (q2, .inl (c2, 36, .inl fl_0)), (q3, .inl (c3, 36, .inl fl_0)), (q4, .inl (c4, 36, .inl fl_0)), (q5, .inl (c5, 8, .inl fl_0)), (q6, .inl (c6, 36, .inl fl_0)), (q7, .inl (c7, 36, .inl fl_0))] H := hP
  have hD : va_D A [(h0, .inr (3, [.int 0, .ref q1, .ref q2, .ref q3, .ref q4, .ref q5, .ref q6, .ref q7, .int 0, .null, .null, .null, .null, .int 0, .null, .null])), (q1, .inl (c1, 36, .inl fl_0)), (q2, .inl (c2, 36, .inl fl_0)), (q3, .inl (c3, 36, .inl fl_0)), (q4, .inl (c4, 36, .inl fl_0)), (q5, .inl (c5, 8, .inl fl_0)), (q6, .inl (c6, 36, .inl fl_0)), (q7, .inl (c7, 36, .inl fl_0))] := hD
  refine lv_aload_n hx hb dX3_init_60 rfl (lv_at hl 0 rfl) ?_
  refine lv_bipush (v := 10) hx hb dX3_init_61 (by decide) ?_
  refine va_newa (atype := .boolean) (ty := .boolean) (N' := 10) (a0 := (10, .inl fl_0)) hx hb (hts (.arrayClass .boolean) (by decide +kernel)) rfl hK hP hD hS hA (fl_nwz 10) (by decide) (by decide) (by decide) (Nat.le_of_ble_eq_true rfl) (Nat.le_of_ble_eq_true rfl) dX3_init_63 (fun q8 c8 H hK hP hD hS => ?_)
  have hK : va_K D vwCl [(c1, .int), (c2, .int), (c3, .int), (c4, .int), (c5, .int), (c6, .int), (c7, .int), (c8, .boolean)] s := hK
  have hP : va_P D vwCl [(h0, .inr (3, [.int 0, .ref q1, .ref q2, .ref q3, .ref q4, .ref q5, .ref q6, .ref q7, .int 0, .null, .null, .null, .null, .int 0, .null, .null])), (q1, .inl (c1, 36, .inl fl_0)), (q2, .inl (c2, 36, .inl fl_0)), (q3, .inl (c3, 36, .inl fl_0)), (q4, .inl (c4, 36, .inl fl_0)), (q5, .inl (c5, 8, .inl fl_0)), (q6, .inl (c6, 36, .inl fl_0)), (q7, .inl (c7, 36, .inl fl_0)), (q8, .inl (c8, 10, .inl fl_0))] H := hP
  have hD : va_D A [(h0, .inr (3, [.int 0, .ref q1, .ref q2, .ref q3, .ref q4, .ref q5, .ref q6, .ref q7, .int 0, .null, .null, .null, .null, .int 0, .null, .null])), (q1, .inl (c1, 36, .inl fl_0)), (q2, .inl (c2, 36, .inl fl_0)), (q3, .inl (c3, 36, .inl fl_0)), (q4, .inl (c4, 36, .inl fl_0)), (q5, .inl (c5, 8, .inl fl_0)), (q6, .inl (c6, 36, .inl fl_0)), (q7, .inl (c7, 36, .inl fl_0)), (q8, .inl (c8, 10, .inl fl_0))] := hD
  refine W.widen (k := 8) (n := 234) (by omega) (by omega) ?_
  refine va_putF (D := D) (ci := 3) (v := .ref q8) (ty := .array .boolean) (C := RX3) (T := TX3) (N := 16) hx hb hts hw tyX3 tyX3_ok nmX3 hown hK hP hD hS 0 rfl rfl 9 (by decide) (hts (.fieldLink RX3 31 "FlowLedgerModel" "seen" "[Z") (by decide +kernel)) (fun _ h9 => h9) rfl hin rfl (by decide +kernel) rfl rfl (Nat.le_of_ble_eq_true rfl) dX3_init_65 (fun H locs hP hD hS => ?_)
  have hP : va_P D vwCl [(h0, .inr (3, [.int 0, .ref q1, .ref q2, .ref q3, .ref q4, .ref q5, .ref q6, .ref q7, .int 0, .ref q8, .null, .null, .null, .int 0, .null, .null])), (q1, .inl (c1, 36, .inl fl_0)), (q2, .inl (c2, 36, .inl fl_0)), (q3, .inl (c3, 36, .inl fl_0)), (q4, .inl (c4, 36, .inl fl_0)), (q5, .inl (c5, 8, .inl fl_0)), (q6, .inl (c6, 36, .inl fl_0)), (q7, .inl (c7, 36, .inl fl_0)), (q8, .inl (c8, 10, .inl fl_0))] H := hP
  have hD : va_D A [(h0, .inr (3, [.int 0, .ref q1, .ref q2, .ref q3, .ref q4, .ref q5, .ref q6, .ref q7, .int 0, .ref q8, .null, .null, .null, .int 0, .null, .null])), (q1, .inl (c1, 36, .inl fl_0)), (q2, .inl (c2, 36, .inl fl_0)), (q3, .inl (c3, 36, .inl fl_0)), (q4, .inl (c4, 36, .inl fl_0)), (q5, .inl (c5, 8, .inl fl_0)), (q6, .inl (c6, 36, .inl fl_0)), (q7, .inl (c7, 36, .inl fl_0)), (q8, .inl (c8, 10, .inl fl_0))] := hD
  refine lv_aload_n hx hb dX3_init_68 rfl (lv_at hl 0 rfl) ?_
  refine lv_bipush (v := 10) hx hb dX3_init_69 (by decide) ?_
  refine va_newa (atype := .int) (ty := .int) (N' := 10) (a0 := (10, .inl fl_0)) hx hb (hts (.arrayClass .int) (by decide +kernel)) rfl hK hP hD hS hA (fl_nwi 10) (by decide) (by decide) (by decide) (Nat.le_of_ble_eq_true rfl) (Nat.le_of_ble_eq_true rfl) dX3_init_71 (fun q9 c9 H hK hP hD hS => ?_)
  have hK : va_K D vwCl [(c1, .int), (c2, .int), (c3, .int), (c4, .int), (c5, .int), (c6, .int), (c7, .int), (c8, .boolean), (c9, .int)] s := hK
  have hP : va_P D vwCl [(h0, .inr (3, [.int 0, .ref q1, .ref q2, .ref q3, .ref q4, .ref q5, .ref q6, .ref q7, .int 0, .ref q8, .null, .null, .null, .int 0, .null, .null])), (q1, .inl (c1, 36, .inl fl_0)), (q2, .inl (c2, 36, .inl fl_0)), (q3, .inl (c3, 36, .inl fl_0)), (q4, .inl (c4, 36, .inl fl_0)), (q5, .inl (c5, 8, .inl fl_0)), (q6, .inl (c6, 36, .inl fl_0)), (q7, .inl (c7, 36, .inl fl_0)), (q8, .inl (c8, 10, .inl fl_0)), (q9, .inl (c9, 10, .inl fl_0))] H := hP
  have hD : va_D A [(h0, .inr (3, [.int 0, .ref q1, .ref q2, .ref q3, .ref q4, .ref q5, .ref q6, .ref q7, .int 0, .ref q8, .null, .null, .null, .int 0, .null, .null])), (q1, .inl (c1, 36, .inl fl_0)), (q2, .inl (c2, 36, .inl fl_0)), (q3, .inl (c3, 36, .inl fl_0)), (q4, .inl (c4, 36, .inl fl_0)), (q5, .inl (c5, 8, .inl fl_0)), (q6, .inl (c6, 36, .inl fl_0)), (q7, .inl (c7, 36, .inl fl_0)), (q8, .inl (c8, 10, .inl fl_0)), (q9, .inl (c9, 10, .inl fl_0))] := hD
  refine W.widen (k := 9) (n := 244) (by omega) (by omega) ?_
  refine va_putF (D := D) (ci := 3) (v := .ref q9) (ty := .array .int) (C := RX3) (T := TX3) (N := 16) hx hb hts hw tyX3 tyX3_ok nmX3 hown hK hP hD hS 0 rfl rfl 10 (by decide) (hts (.fieldLink RX3 35 "FlowLedgerModel" "far" "[I") (by decide +kernel)) (fun _ h9 => h9) rfl hin rfl (by decide +kernel) rfl rfl (Nat.le_of_ble_eq_true rfl) dX3_init_73 (fun H locs hP hD hS => ?_)
  have hP : va_P D vwCl [(h0, .inr (3, [.int 0, .ref q1, .ref q2, .ref q3, .ref q4, .ref q5, .ref q6, .ref q7, .int 0, .ref q8, .ref q9, .null, .null, .int 0, .null, .null])), (q1, .inl (c1, 36, .inl fl_0)), (q2, .inl (c2, 36, .inl fl_0)), (q3, .inl (c3, 36, .inl fl_0)), (q4, .inl (c4, 36, .inl fl_0)), (q5, .inl (c5, 8, .inl fl_0)), (q6, .inl (c6, 36, .inl fl_0)), (q7, .inl (c7, 36, .inl fl_0)), (q8, .inl (c8, 10, .inl fl_0)), (q9, .inl (c9, 10, .inl fl_0))] H := hP
  have hD : va_D A [(h0, .inr (3, [.int 0, .ref q1, .ref q2, .ref q3, .ref q4, .ref q5, .ref q6, .ref q7, .int 0, .ref q8, .ref q9, .null, .null, .int 0, .null, .null])), (q1, .inl (c1, 36, .inl fl_0)), (q2, .inl (c2, 36, .inl fl_0)), (q3, .inl (c3, 36, .inl fl_0)), (q4, .inl (c4, 36, .inl fl_0)), (q5, .inl (c5, 8, .inl fl_0)), (q6, .inl (c6, 36, .inl fl_0)), (q7, .inl (c7, 36, .inl fl_0)), (q8, .inl (c8, 10, .inl fl_0)), (q9, .inl (c9, 10, .inl fl_0))] := hD
  refine lv_aload_n hx hb dX3_init_76 rfl (lv_at hl 0 rfl) ?_
  refine lv_bipush (v := 10) hx hb dX3_init_77 (by decide) ?_
  refine va_newa (atype := .int) (ty := .int) (N' := 10) (a0 := (10, .inl fl_0)) hx hb (hts (.arrayClass .int) (by decide +kernel)) rfl hK hP hD hS hA (fl_nwi 10) (by decide) (by decide) (by decide) (Nat.le_of_ble_eq_true rfl) (Nat.le_of_ble_eq_true rfl) dX3_init_79 (fun q10 c10 H hK hP hD hS => ?_)
  have hK : va_K D vwCl [(c1, .int), (c2, .int), (c3, .int), (c4, .int), (c5, .int), (c6, .int), (c7, .int), (c8, .boolean), (c9, .int), (c10, .int)] s := hK
  have hP : va_P D vwCl [(h0, .inr (3, [.int 0, .ref q1, .ref q2, .ref q3, .ref q4, .ref q5, .ref q6, .ref q7, .int 0, .ref q8, .ref q9, .null, .null, .int 0, .null, .null])), (q1, .inl (c1, 36, .inl fl_0)), (q2, .inl (c2, 36, .inl fl_0)), (q3, .inl (c3, 36, .inl fl_0)), (q4, .inl (c4, 36, .inl fl_0)), (q5, .inl (c5, 8, .inl fl_0)), (q6, .inl (c6, 36, .inl fl_0)), (q7, .inl (c7, 36, .inl fl_0)), (q8, .inl (c8, 10, .inl fl_0)), (q9, .inl (c9, 10, .inl fl_0)), (q10, .inl (c10, 10, .inl fl_0))] H := hP
  have hD : va_D A [(h0, .inr (3, [.int 0, .ref q1, .ref q2, .ref q3, .ref q4, .ref q5, .ref q6, .ref q7, .int 0, .ref q8, .ref q9, .null, .null, .int 0, .null, .null])), (q1, .inl (c1, 36, .inl fl_0)), (q2, .inl (c2, 36, .inl fl_0)), (q3, .inl (c3, 36, .inl fl_0)), (q4, .inl (c4, 36, .inl fl_0)), (q5, .inl (c5, 8, .inl fl_0)), (q6, .inl (c6, 36, .inl fl_0)), (q7, .inl (c7, 36, .inl fl_0)), (q8, .inl (c8, 10, .inl fl_0)), (q9, .inl (c9, 10, .inl fl_0)), (q10, .inl (c10, 10, .inl fl_0))] := hD
  refine W.widen (k := 10) (n := 254) (by omega) (by omega) ?_
  refine va_putF (D := D) (ci := 3) (v := .ref q10) (ty := .array .int) (C := RX3) (T := TX3) (N := 16) hx hb hts hw tyX3 tyX3_ok nmX3 hown hK hP hD hS 0 rfl rfl 11 (by decide) (hts (.fieldLink RX3 38 "FlowLedgerModel" "by" "[I") (by decide +kernel)) (fun _ h9 => h9) rfl hin rfl (by decide +kernel) rfl rfl (Nat.le_of_ble_eq_true rfl) dX3_init_81 (fun H locs hP hD hS => ?_)
  have hP : va_P D vwCl [(h0, .inr (3, [.int 0, .ref q1, .ref q2, .ref q3, .ref q4, .ref q5, .ref q6, .ref q7, .int 0, .ref q8, .ref q9, .ref q10, .null, .int 0, .null, .null])), (q1, .inl (c1, 36, .inl fl_0)), (q2, .inl (c2, 36, .inl fl_0)), (q3, .inl (c3, 36, .inl fl_0)), (q4, .inl (c4, 36, .inl fl_0)), (q5, .inl (c5, 8, .inl fl_0)), (q6, .inl (c6, 36, .inl fl_0)), (q7, .inl (c7, 36, .inl fl_0)), (q8, .inl (c8, 10, .inl fl_0)), (q9, .inl (c9, 10, .inl fl_0)), (q10, .inl (c10, 10, .inl fl_0))] H := hP
  have hD : va_D A [(h0, .inr (3, [.int 0, .ref q1, .ref q2, .ref q3, .ref q4, .ref q5, .ref q6, .ref q7, .int 0, .ref q8, .ref q9, .ref q10, .null, .int 0, .null, .null])), (q1, .inl (c1, 36, .inl fl_0)), (q2, .inl (c2, 36, .inl fl_0)), (q3, .inl (c3, 36, .inl fl_0)), (q4, .inl (c4, 36, .inl fl_0)), (q5, .inl (c5, 8, .inl fl_0)), (q6, .inl (c6, 36, .inl fl_0)), (q7, .inl (c7, 36, .inl fl_0)), (q8, .inl (c8, 10, .inl fl_0)), (q9, .inl (c9, 10, .inl fl_0)), (q10, .inl (c10, 10, .inl fl_0))] := hD
  refine lv_aload_n hx hb dX3_init_84 rfl (lv_at hl 0 rfl) ?_
  refine lv_bipush (v := 36) hx hb dX3_init_85 (by decide) ?_
  refine va_newa (atype := .boolean) (ty := .boolean) (N' := 36) (a0 := (36, .inl fl_0)) hx hb (hts (.arrayClass .boolean) (by decide +kernel)) rfl hK hP hD hS hA (fl_nwz 36) (by decide) (by decide) (by decide) (Nat.le_of_ble_eq_true rfl) (Nat.le_of_ble_eq_true rfl) dX3_init_87 (fun q11 c11 H hK hP hD hS => ?_)
  have hK : va_K D vwCl [(c1, .int), (c2, .int), (c3, .int), (c4, .int), (c5, .int), (c6, .int), (c7, .int), (c8, .boolean), (c9, .int), (c10, .int), (c11, .boolean)] s := hK
  have hP : va_P D vwCl [(h0, .inr (3, [.int 0, .ref q1, .ref q2, .ref q3, .ref q4, .ref q5, .ref q6, .ref q7, .int 0, .ref q8, .ref q9, .ref q10, .null, .int 0, .null, .null])), (q1, .inl (c1, 36, .inl fl_0)), (q2, .inl (c2, 36, .inl fl_0)), (q3, .inl (c3, 36, .inl fl_0)), (q4, .inl (c4, 36, .inl fl_0)), (q5, .inl (c5, 8, .inl fl_0)), (q6, .inl (c6, 36, .inl fl_0)), (q7, .inl (c7, 36, .inl fl_0)), (q8, .inl (c8, 10, .inl fl_0)), (q9, .inl (c9, 10, .inl fl_0)), (q10, .inl (c10, 10, .inl fl_0)), (q11, .inl (c11, 36, .inl fl_0))] H := hP
  have hD : va_D A [(h0, .inr (3, [.int 0, .ref q1, .ref q2, .ref q3, .ref q4, .ref q5, .ref q6, .ref q7, .int 0, .ref q8, .ref q9, .ref q10, .null, .int 0, .null, .null])), (q1, .inl (c1, 36, .inl fl_0)), (q2, .inl (c2, 36, .inl fl_0)), (q3, .inl (c3, 36, .inl fl_0)), (q4, .inl (c4, 36, .inl fl_0)), (q5, .inl (c5, 8, .inl fl_0)), (q6, .inl (c6, 36, .inl fl_0)), (q7, .inl (c7, 36, .inl fl_0)), (q8, .inl (c8, 10, .inl fl_0)), (q9, .inl (c9, 10, .inl fl_0)), (q10, .inl (c10, 10, .inl fl_0)), (q11, .inl (c11, 36, .inl fl_0))] := hD
  refine W.widen (k := 11) (n := 290) (by omega) (by omega) ?_
  refine va_putF (D := D) (ci := 3) (v := .ref q11) (ty := .array .boolean) (C := RX3) (T := TX3) (N := 16) hx hb hts hw tyX3 tyX3_ok nmX3 hown hK hP hD hS 0 rfl rfl 12 (by decide) (hts (.fieldLink RX3 41 "FlowLedgerModel" "allowed" "[Z") (by decide +kernel)) (fun _ h9 => h9) rfl hin rfl (by decide +kernel) rfl rfl (Nat.le_of_ble_eq_true rfl) dX3_init_89 (fun H locs hP hD hS => ?_)
  have hP : va_P D vwCl [(h0, .inr (3, [.int 0, .ref q1, .ref q2, .ref q3, .ref q4, .ref q5, .ref q6, .ref q7, .int 0, .ref q8, .ref q9, .ref q10, .ref q11, .int 0, .null, .null])), (q1, .inl (c1, 36, .inl fl_0)), (q2, .inl (c2, 36, .inl fl_0)), (q3, .inl (c3, 36, .inl fl_0)), (q4, .inl (c4, 36, .inl fl_0)), (q5, .inl (c5, 8, .inl fl_0)), (q6, .inl (c6, 36, .inl fl_0)), (q7, .inl (c7, 36, .inl fl_0)), (q8, .inl (c8, 10, .inl fl_0)), (q9, .inl (c9, 10, .inl fl_0)), (q10, .inl (c10, 10, .inl fl_0)), (q11, .inl (c11, 36, .inl fl_0))] H := hP
  have hD : va_D A [(h0, .inr (3, [.int 0, .ref q1, .ref q2, .ref q3, .ref q4, .ref q5, .ref q6, .ref q7, .int 0, .ref q8, .ref q9, .ref q10, .ref q11, .int 0, .null, .null])), (q1, .inl (c1, 36, .inl fl_0)), (q2, .inl (c2, 36, .inl fl_0)), (q3, .inl (c3, 36, .inl fl_0)), (q4, .inl (c4, 36, .inl fl_0)), (q5, .inl (c5, 8, .inl fl_0)), (q6, .inl (c6, 36, .inl fl_0)), (q7, .inl (c7, 36, .inl fl_0)), (q8, .inl (c8, 10, .inl fl_0)), (q9, .inl (c9, 10, .inl fl_0)), (q10, .inl (c10, 10, .inl fl_0)), (q11, .inl (c11, 36, .inl fl_0))] := hD
  refine lv_aload_n hx hb dX3_init_92 rfl (lv_at hl 0 rfl) ?_
  refine lv_bipush (v := 10) hx hb dX3_init_93 (by decide) ?_
  refine va_newa (atype := .int) (ty := .int) (N' := 10) (a0 := (10, .inl fl_0)) hx hb (hts (.arrayClass .int) (by decide +kernel)) rfl hK hP hD hS hA (fl_nwi 10) (by decide) (by decide) (by decide) (Nat.le_of_ble_eq_true rfl) (Nat.le_of_ble_eq_true rfl) dX3_init_95 (fun q12 c12 H hK hP hD hS => ?_)
  have hK : va_K D vwCl [(c1, .int), (c2, .int), (c3, .int), (c4, .int), (c5, .int), (c6, .int), (c7, .int), (c8, .boolean), (c9, .int), (c10, .int), (c11, .boolean), (c12, .int)] s := hK
  have hP : va_P D vwCl [(h0, .inr (3, [.int 0, .ref q1, .ref q2, .ref q3, .ref q4, .ref q5, .ref q6, .ref q7, .int 0, .ref q8, .ref q9, .ref q10, .ref q11, .int 0, .null, .null])), (q1, .inl (c1, 36, .inl fl_0)), (q2, .inl (c2, 36, .inl fl_0)), (q3, .inl (c3, 36, .inl fl_0)), (q4, .inl (c4, 36, .inl fl_0)), (q5, .inl (c5, 8, .inl fl_0)), (q6, .inl (c6, 36, .inl fl_0)), (q7, .inl (c7, 36, .inl fl_0)), (q8, .inl (c8, 10, .inl fl_0)), (q9, .inl (c9, 10, .inl fl_0)), (q10, .inl (c10, 10, .inl fl_0)), (q11, .inl (c11, 36, .inl fl_0)), (q12, .inl (c12, 10, .inl fl_0))] H := hP
  have hD : va_D A [(h0, .inr (3, [.int 0, .ref q1, .ref q2, .ref q3, .ref q4, .ref q5, .ref q6, .ref q7, .int 0, .ref q8, .ref q9, .ref q10, .ref q11, .int 0, .null, .null])), (q1, .inl (c1, 36, .inl fl_0)), (q2, .inl (c2, 36, .inl fl_0)), (q3, .inl (c3, 36, .inl fl_0)), (q4, .inl (c4, 36, .inl fl_0)), (q5, .inl (c5, 8, .inl fl_0)), (q6, .inl (c6, 36, .inl fl_0)), (q7, .inl (c7, 36, .inl fl_0)), (q8, .inl (c8, 10, .inl fl_0)), (q9, .inl (c9, 10, .inl fl_0)), (q10, .inl (c10, 10, .inl fl_0)), (q11, .inl (c11, 36, .inl fl_0)), (q12, .inl (c12, 10, .inl fl_0))] := hD
  refine W.widen (k := 12) (n := 300) (by omega) (by omega) ?_
  refine va_putF (D := D) (ci := 3) (v := .ref q12) (ty := .array .int) (C := RX3) (T := TX3) (N := 16) hx hb hts hw tyX3 tyX3_ok nmX3 hown hK hP hD hS 0 rfl rfl 14 (by decide) (hts (.fieldLink RX3 44 "FlowLedgerModel" "way" "[I") (by decide +kernel)) (fun _ h9 => h9) rfl hin rfl (by decide +kernel) rfl rfl (Nat.le_of_ble_eq_true rfl) dX3_init_97 (fun H locs hP hD hS => ?_)
  have hP : va_P D vwCl [(h0, .inr (3, [.int 0, .ref q1, .ref q2, .ref q3, .ref q4, .ref q5, .ref q6, .ref q7, .int 0, .ref q8, .ref q9, .ref q10, .ref q11, .int 0, .ref q12, .null])), (q1, .inl (c1, 36, .inl fl_0)), (q2, .inl (c2, 36, .inl fl_0)), (q3, .inl (c3, 36, .inl fl_0)), (q4, .inl (c4, 36, .inl fl_0)), (q5, .inl (c5, 8, .inl fl_0)), (q6, .inl (c6, 36, .inl fl_0)), (q7, .inl (c7, 36, .inl fl_0)), (q8, .inl (c8, 10, .inl fl_0)), (q9, .inl (c9, 10, .inl fl_0)), (q10, .inl (c10, 10, .inl fl_0)), (q11, .inl (c11, 36, .inl fl_0)), (q12, .inl (c12, 10, .inl fl_0))] H := hP
  have hD : va_D A [(h0, .inr (3, [.int 0, .ref q1, .ref q2, .ref q3, .ref q4, .ref q5, .ref q6, .ref q7, .int 0, .ref q8, .ref q9, .ref q10, .ref q11, .int 0, .ref q12, .null])), (q1, .inl (c1, 36, .inl fl_0)), (q2, .inl (c2, 36, .inl fl_0)), (q3, .inl (c3, 36, .inl fl_0)), (q4, .inl (c4, 36, .inl fl_0)), (q5, .inl (c5, 8, .inl fl_0)), (q6, .inl (c6, 36, .inl fl_0)), (q7, .inl (c7, 36, .inl fl_0)), (q8, .inl (c8, 10, .inl fl_0)), (q9, .inl (c9, 10, .inl fl_0)), (q10, .inl (c10, 10, .inl fl_0)), (q11, .inl (c11, 36, .inl fl_0)), (q12, .inl (c12, 10, .inl fl_0))] := hD
  refine lv_aload_n hx hb dX3_init_100 rfl (lv_at hl 0 rfl) ?_
  refine lv_bipush (v := 10) hx hb dX3_init_101 (by decide) ?_
  refine va_newa (atype := .int) (ty := .int) (N' := 10) (a0 := (10, .inl fl_0)) hx hb (hts (.arrayClass .int) (by decide +kernel)) rfl hK hP hD hS hA (fl_nwi 10) (by decide) (by decide) (by decide) (Nat.le_of_ble_eq_true rfl) (Nat.le_of_ble_eq_true rfl) dX3_init_103 (fun q13 c13 H hK hP hD hS => ?_)
  have hK : va_K D vwCl [(c1, .int), (c2, .int), (c3, .int), (c4, .int), (c5, .int), (c6, .int), (c7, .int), (c8, .boolean), (c9, .int), (c10, .int), (c11, .boolean), (c12, .int), (c13, .int)] s := hK
  have hP : va_P D vwCl [(h0, .inr (3, [.int 0, .ref q1, .ref q2, .ref q3, .ref q4, .ref q5, .ref q6, .ref q7, .int 0, .ref q8, .ref q9, .ref q10, .ref q11, .int 0, .ref q12, .null])), (q1, .inl (c1, 36, .inl fl_0)), (q2, .inl (c2, 36, .inl fl_0)), (q3, .inl (c3, 36, .inl fl_0)), (q4, .inl (c4, 36, .inl fl_0)), (q5, .inl (c5, 8, .inl fl_0)), (q6, .inl (c6, 36, .inl fl_0)), (q7, .inl (c7, 36, .inl fl_0)), (q8, .inl (c8, 10, .inl fl_0)), (q9, .inl (c9, 10, .inl fl_0)), (q10, .inl (c10, 10, .inl fl_0)), (q11, .inl (c11, 36, .inl fl_0)), (q12, .inl (c12, 10, .inl fl_0)), (q13, .inl (c13, 10, .inl fl_0))] H := hP
  have hD : va_D A [(h0, .inr (3, [.int 0, .ref q1, .ref q2, .ref q3, .ref q4, .ref q5, .ref q6, .ref q7, .int 0, .ref q8, .ref q9, .ref q10, .ref q11, .int 0, .ref q12, .null])), (q1, .inl (c1, 36, .inl fl_0)), (q2, .inl (c2, 36, .inl fl_0)), (q3, .inl (c3, 36, .inl fl_0)), (q4, .inl (c4, 36, .inl fl_0)), (q5, .inl (c5, 8, .inl fl_0)), (q6, .inl (c6, 36, .inl fl_0)), (q7, .inl (c7, 36, .inl fl_0)), (q8, .inl (c8, 10, .inl fl_0)), (q9, .inl (c9, 10, .inl fl_0)), (q10, .inl (c10, 10, .inl fl_0)), (q11, .inl (c11, 36, .inl fl_0)), (q12, .inl (c12, 10, .inl fl_0)), (q13, .inl (c13, 10, .inl fl_0))] := hD
  refine W.widen (k := 13) (n := 310) (by omega) (by omega) ?_
  refine va_putF (D := D) (ci := 3) (v := .ref q13) (ty := .array .int) (C := RX3) (T := TX3) (N := 16) hx hb hts hw tyX3 tyX3_ok nmX3 hown hK hP hD hS 0 rfl rfl 15 (by decide) (hts (.fieldLink RX3 47 "FlowLedgerModel" "row" "[I") (by decide +kernel)) (fun _ h9 => h9) rfl hin rfl (by decide +kernel) rfl rfl (Nat.le_of_ble_eq_true rfl) dX3_init_105 (fun H locs hP hD hS => ?_)
  have hP : va_P D vwCl [(h0, .inr (3, [.int 0, .ref q1, .ref q2, .ref q3, .ref q4, .ref q5, .ref q6, .ref q7, .int 0, .ref q8, .ref q9, .ref q10, .ref q11, .int 0, .ref q12, .ref q13])), (q1, .inl (c1, 36, .inl fl_0)), (q2, .inl (c2, 36, .inl fl_0)), (q3, .inl (c3, 36, .inl fl_0)), (q4, .inl (c4, 36, .inl fl_0)), (q5, .inl (c5, 8, .inl fl_0)), (q6, .inl (c6, 36, .inl fl_0)), (q7, .inl (c7, 36, .inl fl_0)), (q8, .inl (c8, 10, .inl fl_0)), (q9, .inl (c9, 10, .inl fl_0)), (q10, .inl (c10, 10, .inl fl_0)), (q11, .inl (c11, 36, .inl fl_0)), (q12, .inl (c12, 10, .inl fl_0)), (q13, .inl (c13, 10, .inl fl_0))] H := hP
  have hD : va_D A [(h0, .inr (3, [.int 0, .ref q1, .ref q2, .ref q3, .ref q4, .ref q5, .ref q6, .ref q7, .int 0, .ref q8, .ref q9, .ref q10, .ref q11, .int 0, .ref q12, .ref q13])), (q1, .inl (c1, 36, .inl fl_0)), (q2, .inl (c2, 36, .inl fl_0)), (q3, .inl (c3, 36, .inl fl_0)), (q4, .inl (c4, 36, .inl fl_0)), (q5, .inl (c5, 8, .inl fl_0)), (q6, .inl (c6, 36, .inl fl_0)), (q7, .inl (c7, 36, .inl fl_0)), (q8, .inl (c8, 10, .inl fl_0)), (q9, .inl (c9, 10, .inl fl_0)), (q10, .inl (c10, 10, .inl fl_0)), (q11, .inl (c11, 36, .inl fl_0)), (q12, .inl (c12, 10, .inl fl_0)), (q13, .inl (c13, 10, .inl fl_0))] := hD
  exact W.vret hx hb hr (fun t ht hW => ⟨⟨((fun k => [h0, q1, q2, q3, q4, q5, q6, q7, q8, q9, q10, q11, q12, q13].getD k 0), (fun k => [c1, c2, c3, c4, c5, c6, c7, c8, c9, c10, c11, c12, c13].getD k c1)), rfl, rfl, by rw [ht]; exact hP, va_K.moved hW.alike hK, hD⟩, hS.F ht⟩) hS.2.2 dX3_init_108
