def f_X1_tilt (x1 : Int32) (x2 : Int32) (σ : fl_St) : Option (fl_St) := (fl_rd σ 7 40 ((2) * x1)).bind fun v1 => (fl_wr σ 7 40 ((2) * x1) (v1 + x2)).bind fun σ4 => (fl_rd σ4 7 40 (((2) * x1) + (1))).bind fun v7 => (fl_wr σ4 7 40 (((2) * x1) + (1)) (v7 - x2)).bind fun σ10 => some σ10
def rm_X1_tilt : Room := { frames := 0, cells := 0, slots := 0, locals := 0 }
set_option maxHeartbeats 4000000 in
set_option maxRecDepth 100000 in
theorem c_X1_tilt (l : Launch) (D : va_G) (ad : Nat → Nat) (cz : Nat → ClassId) (x1 : Int32) (x2 : Int32) (σ : fl_St) {σ' : fl_St} (h : f_X1_tilt x1 x2 σ = some σ') : gMv l yX1_tilt wsX1_tilt rm_X1_tilt D (wc ad cz) (wcT cz) wcN [.ref (ad 2), .int x1, .int x2] σ σ' := by
  refine gMv_of (cc := cX1_tilt) (maxL := 3) (by decide) rfl (Nat.le_of_ble_eq_true rfl) ?_
  intro p e s m args below meth c A Q ls hx hb hml hown hts hK hA hg hl hret
  have hown : s.vm.findClass RX1 = some m.cls := hown
  have hl : lv_has ls 3 [(0, .ref (ad 2)), (1, .int x1), (2, .int x2)] := hl
  have k_0 := hts (.fieldLink RX1 25 "FlowLedger$Router" "weight" "[I") (by decide +kernel)
  have k_1 := (by decide +kernel : ∀ w ∈ wsX10, w ∈ wsX1_tilt)
  unfold f_X1_tilt at h
  have W0 : ∀ (H : Heap) (locs : List Loc), gS D (wc ad cz) A s.heap σ H locs → W p l e rm_X1_tilt s m args below meth c H locs 0 0 Q (F0 m 0 ls []) := by
    intro H locs hg
    refine lv_aload_n hx hb dX1_tilt_0 rfl (lv_at hl 0 rfl) ?_
    refine va_get (D := D) (ci := 1) (v := .ref (ad 10)) (C := RX1) (T := TX1) (N := 8) hx hb hts k_1 hown hK.1 hg.1 2 rfl rfl 3 (by decide) k_0 (fun _ h9 => h9) rfl dX1_tilt_1 ?_
    refine lv_iconst (v := (2)) hx hb dX1_tilt_4 (by decide) ?_
    refine lv_iload_n hx hb dX1_tilt_5 rfl (lv_at hl 1 rfl) ?_
    refine lv_imul hx hb dX1_tilt_6 ?_
    refine lv_dup2_11 hx hb dX1_tilt_7 rfl rfl ?_
    obtain ⟨v1, i2, e3, h⟩ := fl_rd_b h
    refine g_ld (n := 40) (t0 := 7) hx hb hK hg (wc_a7 ad cz _) rfl i2 e3 dX1_tilt_8 ?_
    refine lv_iload_n hx hb dX1_tilt_9 rfl (lv_at hl 2 rfl) ?_
    refine lv_iadd hx hb dX1_tilt_10 ?_
    obtain ⟨σ4, i5, e6, h⟩ := fl_wr_b h
    refine g_st (n := 40) (t0 := 7) hx hb hK hg (wc_a7 ad cz _) (wc_s7 ad cz _) rfl i5 e6 dX1_tilt_11 (fun H locs hg => ?_)
    refine lv_aload_n hx hb dX1_tilt_12 rfl (lv_at hl 0 rfl) ?_
    refine va_get (D := D) (ci := 1) (v := .ref (ad 10)) (C := RX1) (T := TX1) (N := 8) hx hb hts k_1 hown hK.1 hg.1 2 rfl rfl 3 (by decide) k_0 (fun _ h9 => h9) rfl dX1_tilt_13 ?_
    refine lv_iconst (v := (2)) hx hb dX1_tilt_16 (by decide) ?_
    refine lv_iload_n hx hb dX1_tilt_17 rfl (lv_at hl 1 rfl) ?_
    refine lv_imul hx hb dX1_tilt_18 ?_
    refine lv_iconst (v := (1)) hx hb dX1_tilt_19 (by decide) ?_
    refine lv_iadd hx hb dX1_tilt_20 ?_
    refine lv_dup2_11 hx hb dX1_tilt_21 rfl rfl ?_
    obtain ⟨v7, i8, e9, h⟩ := fl_rd_b h
    refine g_ld (n := 40) (t0 := 7) hx hb hK hg (wc_a7 ad cz _) rfl i8 e9 dX1_tilt_22 ?_
    refine lv_iload_n hx hb dX1_tilt_23 rfl (lv_at hl 2 rfl) ?_
    refine lv_isub hx hb dX1_tilt_24 ?_
    obtain ⟨σ10, i11, e12, h⟩ := fl_wr_b h
    refine g_st (n := 40) (t0 := 7) hx hb hK hg (wc_a7 ad cz _) (wc_s7 ad cz _) rfl i11 e12 dX1_tilt_25 (fun H locs hg => ?_)
    exact hret _ _ _ _ _ h hg dX1_tilt_26
  exact W0 _ _ hg
def f_X1_flowOf (x1 : Int32) (σ : fl_St) : Option (Int32) := (fl_rd σ 8 40 (((2) * x1) + (1))).bind fun v1 => some v1
def rm_X1_flowOf : Room := { frames := 0, cells := 0, slots := 0, locals := 0 }
set_option maxHeartbeats 4000000 in
set_option maxRecDepth 100000 in
theorem c_X1_flowOf (l : Launch) (D : va_G) (ad : Nat → Nat) (cz : Nat → ClassId) (x1 : Int32) (σ : fl_St) {r : Int32} (h : f_X1_flowOf x1 σ = some r) : gMi l yX1_flowOf wsX1_flowOf rm_X1_flowOf D (wc ad cz) (wcT cz) wcN [.ref (ad 2), .int x1] σ r σ := by
  refine gMi_of (cc := cX1_flowOf) (maxL := 2) (by decide) rfl (Nat.le_of_ble_eq_true rfl) ?_
  intro p e s m args below meth c A Q ls hx hb hml hown hts hK hA hg hl hret
  have hown : s.vm.findClass RX1 = some m.cls := hown
  have hl : lv_has ls 2 [(0, .ref (ad 2)), (1, .int x1)] := hl
  have k_0 := hts (.fieldLink RX1 28 "FlowLedger$Router" "room" "[I") (by decide +kernel)
  have k_1 := (by decide +kernel : ∀ w ∈ wsX10, w ∈ wsX1_flowOf)
  unfold f_X1_flowOf at h
  have W0 : ∀ (H : Heap) (locs : List Loc), gS D (wc ad cz) A s.heap σ H locs → W p l e rm_X1_flowOf s m args below meth c H locs 0 0 Q (F0 m 0 ls []) := by
    intro H locs hg
    refine lv_aload_n hx hb dX1_flowOf_0 rfl (lv_at hl 0 rfl) ?_
    refine va_get (D := D) (ci := 1) (v := .ref (ad 11)) (C := RX1) (T := TX1) (N := 8) hx hb hts k_1 hown hK.1 hg.1 2 rfl rfl 4 (by decide) k_0 (fun _ h9 => h9) rfl dX1_flowOf_1 ?_
    refine lv_iconst (v := (2)) hx hb dX1_flowOf_4 (by decide) ?_
    refine lv_iload_n hx hb dX1_flowOf_5 rfl (lv_at hl 1 rfl) ?_
    refine lv_imul hx hb dX1_flowOf_6 ?_
    refine lv_iconst (v := (1)) hx hb dX1_flowOf_7 (by decide) ?_
    refine lv_iadd hx hb dX1_flowOf_8 ?_
    obtain ⟨v1, i2, e3, h⟩ := fl_rd_b h
    refine g_ld (n := 40) (t0 := 8) hx hb hK hg (wc_a8 ad cz _) rfl i2 e3 dX1_flowOf_9 ?_
    exact hret _ _ _ _ _ _ (congrArg (Option.map (fun q => (q, σ))) h) hg rfl dX1_flowOf_10
  exact W0 _ _ hg
def f_X1_distanceTo (x1 : Int32) (σ : fl_St) : Option (Int32) := (fl_rd σ 10 8 x1).bind fun v1 => some v1
def rm_X1_distanceTo : Room := { frames := 0, cells := 0, slots := 0, locals := 0 }
set_option maxHeartbeats 4000000 in
set_option maxRecDepth 100000 in
theorem c_X1_distanceTo (l : Launch) (D : va_G) (ad : Nat → Nat) (cz : Nat → ClassId) (x1 : Int32) (σ : fl_St) {r : Int32} (h : f_X1_distanceTo x1 σ = some r) : gMi l yX1_distanceTo wsX1_distanceTo rm_X1_distanceTo D (wc ad cz) (wcT cz) wcN [.ref (ad 2), .int x1] σ r σ := by
  refine gMi_of (cc := cX1_distanceTo) (maxL := 2) (by decide) rfl (Nat.le_of_ble_eq_true rfl) ?_
  intro p e s m args below meth c A Q ls hx hb hml hown hts hK hA hg hl hret
  have hown : s.vm.findClass RX1 = some m.cls := hown
  have hl : lv_has ls 2 [(0, .ref (ad 2)), (1, .int x1)] := hl
  have k_0 := hts (.fieldLink RX1 34 "FlowLedger$Router" "distance" "[I") (by decide +kernel)
  have k_1 := (by decide +kernel : ∀ w ∈ wsX10, w ∈ wsX1_distanceTo)
  unfold f_X1_distanceTo at h
  have W0 : ∀ (H : Heap) (locs : List Loc), gS D (wc ad cz) A s.heap σ H locs → W p l e rm_X1_distanceTo s m args below meth c H locs 0 0 Q (F0 m 0 ls []) := by
    intro H locs hg
    refine lv_aload_n hx hb dX1_distanceTo_0 rfl (lv_at hl 0 rfl) ?_
    refine va_get (D := D) (ci := 1) (v := .ref (ad 13)) (C := RX1) (T := TX1) (N := 8) hx hb hts k_1 hown hK.1 hg.1 2 rfl rfl 6 (by decide) k_0 (fun _ h9 => h9) rfl dX1_distanceTo_1 ?_
    refine lv_iload_n hx hb dX1_distanceTo_4 rfl (lv_at hl 1 rfl) ?_
    obtain ⟨v1, i2, e3, h⟩ := fl_rd_b h
    refine g_ld (n := 8) (t0 := 10) hx hb hK hg (wc_a10 ad cz _) rfl i2 e3 dX1_distanceTo_5 ?_
    exact hret _ _ _ _ _ _ (congrArg (Option.map (fun q => (q, σ))) h) hg rfl dX1_distanceTo_6
  exact W0 _ _ hg
def f_X1_isShortcut (x1 : Int32) (σ : fl_St) : Option (Int32) := (fl_rd σ 5 40 x1).bind fun v1 => (fl_rd σ 10 8 v1).bind fun v4 => (fl_rd σ 7 40 x1).bind fun v7 => (fl_rd σ 6 40 x1).bind fun v10 => (fl_rd σ 10 8 v10).bind fun v13 => (if v13 ≤ (v4 + v7) then (some ((0))) else (some ((1)))).bind fun (t17 : Int32) => if ¬ (t17 = 0 ∨ t17 = 1) then none else some t17
def rm_X1_isShortcut : Room := { frames := 0, cells := 0, slots := 0, locals := 0 }
set_option maxHeartbeats 4000000 in
set_option maxRecDepth 100000 in
theorem c_X1_isShortcut (l : Launch) (D : va_G) (ad : Nat → Nat) (cz : Nat → ClassId) (x1 : Int32) (σ : fl_St) {r : Int32} (h : f_X1_isShortcut x1 σ = some r) : gMi l yX1_isShortcut wsX1_isShortcut rm_X1_isShortcut D (wc ad cz) (wcT cz) wcN [.ref (ad 2), .int x1] σ r σ := by
  refine gMi_of (cc := cX1_isShortcut) (maxL := 2) (by decide) rfl (Nat.le_of_ble_eq_true rfl) ?_
  intro p e s m args below meth c A Q ls hx hb hml hown hts hK hA hg hl hret
  have hown : s.vm.findClass RX1 = some m.cls := hown
  have hl : lv_has ls 2 [(0, .ref (ad 2)), (1, .int x1)] := hl
  have k_0 := hts (.fieldLink RX1 34 "FlowLedger$Router" "distance" "[I") (by decide +kernel)
  have k_1 := (by decide +kernel : ∀ w ∈ wsX10, w ∈ wsX1_isShortcut)
  have k_2 := hts (.fieldLink RX1 18 "FlowLedger$Router" "tail" "[I") (by decide +kernel)
  have k_3 := hts (.fieldLink RX1 25 "FlowLedger$Router" "weight" "[I") (by decide +kernel)
  have k_4 := hts (.fieldLink RX1 22 "FlowLedger$Router" "head" "[I") (by decide +kernel)
  unfold f_X1_isShortcut at h
  have W0 : ∀ (H : Heap) (locs : List Loc), gS D (wc ad cz) A s.heap σ H locs → W p l e rm_X1_isShortcut s m args below meth c H locs 0 0 Q (F0 m 0 ls []) := by
    intro H locs hg
    refine lv_aload_n hx hb dX1_isShortcut_0 rfl (lv_at hl 0 rfl) ?_
    refine va_get (D := D) (ci := 1) (v := .ref (ad 13)) (C := RX1) (T := TX1) (N := 8) hx hb hts k_1 hown hK.1 hg.1 2 rfl rfl 6 (by decide) k_0 (fun _ h9 => h9) rfl dX1_isShortcut_1 ?_
    refine lv_aload_n hx hb dX1_isShortcut_4 rfl (lv_at hl 0 rfl) ?_
    refine va_get (D := D) (ci := 1) (v := .ref (ad 8)) (C := RX1) (T := TX1) (N := 8) hx hb hts k_1 hown hK.1 hg.1 2 rfl rfl 1 (by decide) k_2 (fun _ h9 => h9) rfl dX1_isShortcut_5 ?_
    refine lv_iload_n hx hb dX1_isShortcut_8 rfl (lv_at hl 1 rfl) ?_
    obtain ⟨v1, i2, e3, h⟩ := fl_rd_b h
    refine g_ld (n := 40) (t0 := 5) hx hb hK hg (wc_a5 ad cz _) rfl i2 e3 dX1_isShortcut_9 ?_
    obtain ⟨v4, i5, e6, h⟩ := fl_rd_b h
    refine g_ld (n := 8) (t0 := 10) hx hb hK hg (wc_a10 ad cz _) rfl i5 e6 dX1_isShortcut_10 ?_
    refine lv_aload_n hx hb dX1_isShortcut_11 rfl (lv_at hl 0 rfl) ?_
    refine va_get (D := D) (ci := 1) (v := .ref (ad 10)) (C := RX1) (T := TX1) (N := 8) hx hb hts k_1 hown hK.1 hg.1 2 rfl rfl 3 (by decide) k_3 (fun _ h9 => h9) rfl dX1_isShortcut_12 ?_
    refine lv_iload_n hx hb dX1_isShortcut_15 rfl (lv_at hl 1 rfl) ?_
    obtain ⟨v7, i8, e9, h⟩ := fl_rd_b h
    refine g_ld (n := 40) (t0 := 7) hx hb hK hg (wc_a7 ad cz _) rfl i8 e9 dX1_isShortcut_16 ?_
    refine lv_iadd hx hb dX1_isShortcut_17 ?_
    refine lv_aload_n hx hb dX1_isShortcut_18 rfl (lv_at hl 0 rfl) ?_
    refine va_get (D := D) (ci := 1) (v := .ref (ad 13)) (C := RX1) (T := TX1) (N := 8) hx hb hts k_1 hown hK.1 hg.1 2 rfl rfl 6 (by decide) k_0 (fun _ h9 => h9) rfl dX1_isShortcut_19 ?_
    refine lv_aload_n hx hb dX1_isShortcut_22 rfl (lv_at hl 0 rfl) ?_
    refine va_get (D := D) (ci := 1) (v := .ref (ad 9)) (C := RX1) (T := TX1) (N := 8) hx hb hts k_1 hown hK.1 hg.1 2 rfl rfl 2 (by decide) k_4 (fun _ h9 => h9) rfl dX1_isShortcut_23 ?_
    refine lv_iload_n hx hb dX1_isShortcut_26 rfl (lv_at hl 1 rfl) ?_
    obtain ⟨v10, i11, e12, h⟩ := fl_rd_b h
    refine g_ld (n := 40) (t0 := 6) hx hb hK hg (wc_a6 ad cz _) rfl i11 e12 dX1_isShortcut_27 ?_
    obtain ⟨v13, i14, e15, h⟩ := fl_rd_b h
    refine g_ld (n := 8) (t0 := 10) hx hb hK hg (wc_a10 ad cz _) rfl i14 e15 dX1_isShortcut_28 ?_
    obtain ⟨t17, hB19, h⟩ := fl_bnd h
    have J18 : ∀ (H : Heap) (locs : List Loc) (ls : Array Slot), gS D (wc ad cz) A s.heap σ H locs → lv_has ls 2 [] → W p l e rm_X1_isShortcut s m args below meth c H locs 0 0 Q (F0 m 37 ls [.int t17]) := by
      intro H locs ls hg hl
      obtain ⟨z20, h⟩ := fl_bool h
      exact hret _ _ _ _ _ _ (congrArg (Option.map (fun q => (q, σ))) h) hg (fl_nar2 z20) dX1_isShortcut_37
    clear h
    have h := hB19
    refine lv_icmp_ge (tgt := 36) hx hb dX1_isShortcut_29 (by decide) (fun c16 => ?_) (fun c16 => ?_)
    · have h := fl_ifp c16 h
      refine lv_iconst (v := (0)) hx hb dX1_isShortcut_36 (by decide) ?_
      obtain rfl := fl_s1 h
      exact J18 H locs ls hg (lv_sub hl [] rfl)
    · have h := fl_ifn c16 h
      refine lv_iconst (v := (1)) hx hb dX1_isShortcut_32 (by decide) ?_
      refine lv_goto (tgt := 37) hx hb dX1_isShortcut_33 (by decide) ?_
      obtain rfl := fl_s1 h
      exact J18 H locs ls hg (lv_sub hl [] rfl)
  exact W0 _ _ hg
def f_X1_setStart (x1 : Int32) (x2 : Int32) (σ : fl_St) : Option (fl_St) := (if x2 = 0 then (some ((1000000000))) else (some ((0)))).bind fun (t2 : Int32) => (fl_wr σ 10 8 x1 t2).bind fun σ5 => (fl_wr σ5 11 8 x1 (-1)).bind fun σ8 => some σ8
def rm_X1_setStart : Room := { frames := 0, cells := 0, slots := 0, locals := 0 }
set_option maxHeartbeats 4000000 in
set_option maxRecDepth 100000 in
theorem c_X1_setStart (l : Launch) (D : va_G) (ad : Nat → Nat) (cz : Nat → ClassId) (x1 : Int32) (x2 : Int32) (σ : fl_St) {σ' : fl_St} (h : f_X1_setStart x1 x2 σ = some σ') : gMv l yX1_setStart wsX1_setStart rm_X1_setStart D (wc ad cz) (wcT cz) wcN [.ref (ad 2), .int x1, .int x2] σ σ' := by
  refine gMv_of (cc := cX1_setStart) (maxL := 3) (by decide) rfl (Nat.le_of_ble_eq_true rfl) ?_
  intro p e s m args below meth c A Q ls hx hb hml hown hts hK hA hg hl hret
  have hown : s.vm.findClass RX1 = some m.cls := hown
  have hl : lv_has ls 3 [(0, .ref (ad 2)), (1, .int x1), (2, .int x2)] := hl
  have k_0 := hts (.fieldLink RX1 34 "FlowLedger$Router" "distance" "[I") (by decide +kernel)
  have k_1 := (by decide +kernel : ∀ w ∈ wsX10, w ∈ wsX1_setStart)
  have k_2 := hts (.fieldLink RX1 37 "FlowLedger$Router" "entry" "[I") (by decide +kernel)
  have k_3 := hts (.constant RX1 77 (1000000000)) (by decide +kernel)
  unfold f_X1_setStart at h
  have W0 : ∀ (H : Heap) (locs : List Loc), gS D (wc ad cz) A s.heap σ H locs → W p l e rm_X1_setStart s m args below meth c H locs 0 0 Q (F0 m 0 ls []) := by
    intro H locs hg
    refine lv_aload_n hx hb dX1_setStart_0 rfl (lv_at hl 0 rfl) ?_
    refine va_get (D := D) (ci := 1) (v := .ref (ad 13)) (C := RX1) (T := TX1) (N := 8) hx hb hts k_1 hown hK.1 hg.1 2 rfl rfl 6 (by decide) k_0 (fun _ h9 => h9) rfl dX1_setStart_1 ?_
    refine lv_iload_n hx hb dX1_setStart_4 rfl (lv_at hl 1 rfl) ?_
    refine lv_iload_n hx hb dX1_setStart_5 rfl (lv_at hl 2 rfl) ?_
    obtain ⟨t2, hB4, h⟩ := fl_bnd h
    have J3 : ∀ (H : Heap) (locs : List Loc) (ls : Array Slot), gS D (wc ad cz) A s.heap σ H locs → lv_has ls 3 [(0, .ref (ad 2)), (1, .int x1)] → W p l e rm_X1_setStart s m args below meth c H locs 0 0 Q (F0 m 15 ls [.int t2, .int x1, .ref (ad 13)]) := by
      intro H locs ls hg hl
      obtain ⟨σ5, i6, e7, h⟩ := fl_wr_b h
      refine g_st (n := 8) (t0 := 10) hx hb hK hg (wc_a10 ad cz _) (wc_s10 ad cz _) rfl i6 e7 dX1_setStart_15 (fun H locs hg => ?_)
      refine lv_aload_n hx hb dX1_setStart_16 rfl (lv_at hl 0 rfl) ?_
      refine va_get (D := D) (ci := 1) (v := .ref (ad 14)) (C := RX1) (T := TX1) (N := 8) hx hb hts k_1 hown hK.1 hg.1 2 rfl rfl 7 (by decide) k_2 (fun _ h9 => h9) rfl dX1_setStart_17 ?_
      refine lv_iload_n hx hb dX1_setStart_20 rfl (lv_at hl 1 rfl) ?_
      refine lv_iconst (v := (-1)) hx hb dX1_setStart_21 (by decide) ?_
      obtain ⟨σ8, i9, e10, h⟩ := fl_wr_b h
      refine g_st (n := 8) (t0 := 11) hx hb hK hg (wc_a11 ad cz _) (wc_s11 ad cz _) rfl i9 e10 dX1_setStart_22 (fun H locs hg => ?_)
      exact hret _ _ _ _ _ h hg dX1_setStart_23
    clear h
    have h := hB4
    refine lv_if_eq (tgt := 13) hx hb dX1_setStart_6 (by decide) (fun c1 => ?_) (fun c1 => ?_)
    · have h := fl_ifp c1 h
      refine lv_ldc hx hb hown k_3 dX1_setStart_13 ?_
      obtain rfl := fl_s1 h
      exact J3 H locs ls hg (lv_sub hl [0, 1] rfl)
    · have h := fl_ifn c1 h
      refine lv_iconst (v := (0)) hx hb dX1_setStart_9 (by decide) ?_
      refine lv_goto (tgt := 15) hx hb dX1_setStart_10 (by decide) ?_
      obtain rfl := fl_s1 h
      exact J3 H locs ls hg (lv_sub hl [0, 1] rfl)
  exact W0 _ _ hg
def f_X1_lay_l2 (x1 : Int32) : Nat → Int32 → fl_St → Option (fl_St)
  | 0, _, _ => none
  | n + 1, x2, σ => if (σ 12 0) ≤ x2 then (some (σ)) else ((fl_rd σ 0 20 x2).bind fun v2 => (fl_wr σ 5 40 ((2) * x2) v2).bind fun σ5 => (fl_rd σ5 1 20 x2).bind fun v8 => (fl_wr σ5 6 40 ((2) * x2) v8).bind fun σ11 => (fl_rd σ11 3 20 x2).bind fun v14 => (fl_wr σ11 7 40 ((2) * x2) (x1 * v14)).bind fun σ17 => (fl_rd σ17 6 40 ((2) * x2)).bind fun v20 => (fl_wr σ17 5 40 (((2) * x2) + (1)) v20).bind fun σ23 => (fl_rd σ23 5 40 ((2) * x2)).bind fun v26 => (fl_wr σ23 6 40 (((2) * x2) + (1)) v26).bind fun σ29 => (fl_rd σ29 7 40 ((2) * x2)).bind fun v32 => (fl_wr σ29 7 40 (((2) * x2) + (1)) (-v32)).bind fun σ35 => f_X1_lay_l2 x1 n (x2 + 1) σ35)
def f_X1_lay (x1 : Int32) (σ : fl_St) : Option (fl_St) := (f_X1_lay_l2 x1 fl_N (0) σ).bind fun (σ38 : fl_St) => some σ38
def rm_X1_lay : Room := { frames := 0, cells := 0, slots := 0, locals := 0 }
set_option maxHeartbeats 4000000 in
set_option maxRecDepth 100000 in
theorem c_X1_lay (l : Launch) (D : va_G) (ad : Nat → Nat) (cz : Nat → ClassId) (x1 : Int32) (σ : fl_St) {σ' : fl_St} (h : f_X1_lay x1 σ = some σ') : gMv l yX1_lay wsX1_lay rm_X1_lay D (wc ad cz) (wcT cz) wcN [.ref (ad 2), .int x1] σ σ' := by
  refine gMv_of (cc := cX1_lay) (maxL := 4) (by decide) rfl (Nat.le_of_ble_eq_true rfl) ?_
  intro p e s m args below meth c A Q ls hx hb hml hown hts hK hA hg hl hret
  have hown : s.vm.findClass RX1 = some m.cls := hown
  have hl : lv_has ls 4 [(0, .ref (ad 2)), (1, .int x1)] := hl
  have k_0 := hts (.fieldLink RX1 12 "FlowLedger$Router" "network" "LFlowLedger$Network;") (by decide +kernel)
  have k_1 := (by decide +kernel : ∀ w ∈ wsX10, w ∈ wsX1_lay)
  have k_2 := hts (.fieldLink RX1 40 "FlowLedger$Network" "count" "I") (by decide +kernel)
  have k_3 := (by decide +kernel : ∀ w ∈ wsX00, w ∈ wsX1_lay)
  have k_4 := hts (.fieldLink RX1 18 "FlowLedger$Router" "tail" "[I") (by decide +kernel)
  have k_5 := hts (.fieldLink RX1 44 "FlowLedger$Network" "from" "[I") (by decide +kernel)
  have k_6 := hts (.fieldLink RX1 22 "FlowLedger$Router" "head" "[I") (by decide +kernel)
  have k_7 := hts (.fieldLink RX1 47 "FlowLedger$Network" "to" "[I") (by decide +kernel)
  have k_8 := hts (.fieldLink RX1 25 "FlowLedger$Router" "weight" "[I") (by decide +kernel)
  have k_9 := hts (.fieldLink RX1 50 "FlowLedger$Network" "cost" "[I") (by decide +kernel)
  have L2 : ∀ (n : Nat) (x1 : Int32) (x2 : Int32) (σ : fl_St) (σo : fl_St) (H : Heap) (locs : List Loc) (ls : Array Slot), f_X1_lay_l2 x1 n x2 σ = some (σo) → gS D (wc ad cz) A s.heap σ H locs → lv_has ls 4 [(0, .ref (ad 2)), (1, .int x1), (2, .int x2)] → (∀ (H : Heap) (locs : List Loc) (ls : Array Slot), gS D (wc ad cz) A s.heap σo H locs → lv_has ls 4 [] → W p l e rm_X1_lay s m args below meth c H locs 0 0 Q (F0 m 113 ls [])) → W p l e rm_X1_lay s m args below meth c H locs 0 0 Q (F0 m 2 ls []) := by
    intro n
    induction n with
    | zero =>
      intro x1 x2 σ σo H locs ls h hg hl kk0
      rw [f_X1_lay_l2] at h
      cases h
    | succ n ih =>
      intro x1 x2 σ σo H locs ls h hg hl kk0
      rw [f_X1_lay_l2] at h
      refine lv_iload_n hx hb dX1_lay_2 rfl (lv_at hl 2 rfl) ?_
      refine lv_aload_n hx hb dX1_lay_3 rfl (lv_at hl 0 rfl) ?_
      refine va_get (D := D) (ci := 1) (v := .ref (ad 1)) (C := RX1) (T := TX1) (N := 8) hx hb hts k_1 hown hK.1 hg.1 2 rfl rfl 0 (by decide) k_0 (fun _ h9 => h9) rfl dX1_lay_4 ?_
      refine va_get (D := D) (ci := 0) (v := .int (σ 12 0)) (C := RX0) (T := TX0) (N := 6) hx hb hts k_3 hown hK.1 hg.1 1 rfl rfl 5 (by decide) k_2 (fun _ h9 => h9) rfl dX1_lay_7 ?_
      refine lv_icmp_ge (tgt := 113) hx hb dX1_lay_10 (by decide) (fun c1 => ?_) (fun c1 => ?_)
      · have h := fl_ifp c1 h
        obtain rfl := fl_s1 h
        exact kk0 H locs ls hg (lv_sub hl [] rfl)
      · have h := fl_ifn c1 h
        refine lv_iconst (v := (2)) hx hb dX1_lay_13 (by decide) ?_
        refine lv_iload_n hx hb dX1_lay_14 rfl (lv_at hl 2 rfl) ?_
        refine lv_imul hx hb dX1_lay_15 ?_
        refine lv_istore_n (lv' := [(3, .int ((2) * x2)), (0, .ref (ad 2)), (1, .int x1), (2, .int x2)]) hx hb dX1_lay_16 rfl hl (by decide) rfl (fun ls hl => ?_)
        refine lv_aload_n hx hb dX1_lay_17 rfl (lv_at hl 1 rfl) ?_
        refine va_get (D := D) (ci := 1) (v := .ref (ad 8)) (C := RX1) (T := TX1) (N := 8) hx hb hts k_1 hown hK.1 hg.1 2 rfl rfl 1 (by decide) k_4 (fun _ h9 => h9) rfl dX1_lay_18 ?_
        refine lv_iload_n hx hb dX1_lay_21 rfl (lv_at hl 0 rfl) ?_
        refine lv_aload_n hx hb dX1_lay_22 rfl (lv_at hl 1 rfl) ?_
        refine va_get (D := D) (ci := 1) (v := .ref (ad 1)) (C := RX1) (T := TX1) (N := 8) hx hb hts k_1 hown hK.1 hg.1 2 rfl rfl 0 (by decide) k_0 (fun _ h9 => h9) rfl dX1_lay_23 ?_
        refine va_get (D := D) (ci := 0) (v := .ref (ad 3)) (C := RX0) (T := TX0) (N := 6) hx hb hts k_3 hown hK.1 hg.1 1 rfl rfl 0 (by decide) k_5 (fun _ h9 => h9) rfl dX1_lay_26 ?_
        refine lv_iload_n hx hb dX1_lay_29 rfl (lv_at hl 3 rfl) ?_
        obtain ⟨v2, i3, e4, h⟩ := fl_rd_b h
        refine g_ld (n := 20) (t0 := 0) hx hb hK hg (wc_a0 ad cz _) rfl i3 e4 dX1_lay_30 ?_
        obtain ⟨σ5, i6, e7, h⟩ := fl_wr_b h
        refine g_st (n := 40) (t0 := 5) hx hb hK hg (wc_a5 ad cz _) (wc_s5 ad cz _) rfl i6 e7 dX1_lay_31 (fun H locs hg => ?_)
        refine lv_aload_n hx hb dX1_lay_32 rfl (lv_at hl 1 rfl) ?_
        refine va_get (D := D) (ci := 1) (v := .ref (ad 9)) (C := RX1) (T := TX1) (N := 8) hx hb hts k_1 hown hK.1 hg.1 2 rfl rfl 2 (by decide) k_6 (fun _ h9 => h9) rfl dX1_lay_33 ?_
        refine lv_iload_n hx hb dX1_lay_36 rfl (lv_at hl 0 rfl) ?_
        refine lv_aload_n hx hb dX1_lay_37 rfl (lv_at hl 1 rfl) ?_
        refine va_get (D := D) (ci := 1) (v := .ref (ad 1)) (C := RX1) (T := TX1) (N := 8) hx hb hts k_1 hown hK.1 hg.1 2 rfl rfl 0 (by decide) k_0 (fun _ h9 => h9) rfl dX1_lay_38 ?_
        refine va_get (D := D) (ci := 0) (v := .ref (ad 4)) (C := RX0) (T := TX0) (N := 6) hx hb hts k_3 hown hK.1 hg.1 1 rfl rfl 1 (by decide) k_7 (fun _ h9 => h9) rfl dX1_lay_41 ?_
        refine lv_iload_n hx hb dX1_lay_44 rfl (lv_at hl 3 rfl) ?_
        obtain ⟨v8, i9, e10, h⟩ := fl_rd_b h
        refine g_ld (n := 20) (t0 := 1) hx hb hK hg (wc_a1 ad cz _) rfl i9 e10 dX1_lay_45 ?_
        obtain ⟨σ11, i12, e13, h⟩ := fl_wr_b h
        refine g_st (n := 40) (t0 := 6) hx hb hK hg (wc_a6 ad cz _) (wc_s6 ad cz _) rfl i12 e13 dX1_lay_46 (fun H locs hg => ?_)
        refine lv_aload_n hx hb dX1_lay_47 rfl (lv_at hl 1 rfl) ?_
        refine va_get (D := D) (ci := 1) (v := .ref (ad 10)) (C := RX1) (T := TX1) (N := 8) hx hb hts k_1 hown hK.1 hg.1 2 rfl rfl 3 (by decide) k_8 (fun _ h9 => h9) rfl dX1_lay_48 ?_
        refine lv_iload_n hx hb dX1_lay_51 rfl (lv_at hl 0 rfl) ?_
        refine lv_iload_n hx hb dX1_lay_52 rfl (lv_at hl 2 rfl) ?_
        refine lv_aload_n hx hb dX1_lay_53 rfl (lv_at hl 1 rfl) ?_
        refine va_get (D := D) (ci := 1) (v := .ref (ad 1)) (C := RX1) (T := TX1) (N := 8) hx hb hts k_1 hown hK.1 hg.1 2 rfl rfl 0 (by decide) k_0 (fun _ h9 => h9) rfl dX1_lay_54 ?_
        refine va_get (D := D) (ci := 0) (v := .ref (ad 6)) (C := RX0) (T := TX0) (N := 6) hx hb hts k_3 hown hK.1 hg.1 1 rfl rfl 3 (by decide) k_9 (fun _ h9 => h9) rfl dX1_lay_57 ?_
        refine lv_iload_n hx hb dX1_lay_60 rfl (lv_at hl 3 rfl) ?_
        obtain ⟨v14, i15, e16, h⟩ := fl_rd_b h
        refine g_ld (n := 20) (t0 := 3) hx hb hK hg (wc_a3 ad cz _) rfl i15 e16 dX1_lay_61 ?_
        refine lv_imul hx hb dX1_lay_62 ?_
        obtain ⟨σ17, i18, e19, h⟩ := fl_wr_b h
        refine g_st (n := 40) (t0 := 7) hx hb hK hg (wc_a7 ad cz _) (wc_s7 ad cz _) rfl i18 e19 dX1_lay_63 (fun H locs hg => ?_)
        refine lv_aload_n hx hb dX1_lay_64 rfl (lv_at hl 1 rfl) ?_
        refine va_get (D := D) (ci := 1) (v := .ref (ad 8)) (C := RX1) (T := TX1) (N := 8) hx hb hts k_1 hown hK.1 hg.1 2 rfl rfl 1 (by decide) k_4 (fun _ h9 => h9) rfl dX1_lay_65 ?_
        refine lv_iload_n hx hb dX1_lay_68 rfl (lv_at hl 0 rfl) ?_
        refine lv_iconst (v := (1)) hx hb dX1_lay_69 (by decide) ?_
        refine lv_iadd hx hb dX1_lay_70 ?_
        refine lv_aload_n hx hb dX1_lay_71 rfl (lv_at hl 1 rfl) ?_
        refine va_get (D := D) (ci := 1) (v := .ref (ad 9)) (C := RX1) (T := TX1) (N := 8) hx hb hts k_1 hown hK.1 hg.1 2 rfl rfl 2 (by decide) k_6 (fun _ h9 => h9) rfl dX1_lay_72 ?_
        refine lv_iload_n hx hb dX1_lay_75 rfl (lv_at hl 0 rfl) ?_
        obtain ⟨v20, i21, e22, h⟩ := fl_rd_b h
        refine g_ld (n := 40) (t0 := 6) hx hb hK hg (wc_a6 ad cz _) rfl i21 e22 dX1_lay_76 ?_
        obtain ⟨σ23, i24, e25, h⟩ := fl_wr_b h
        refine g_st (n := 40) (t0 := 5) hx hb hK hg (wc_a5 ad cz _) (wc_s5 ad cz _) rfl i24 e25 dX1_lay_77 (fun H locs hg => ?_)
        refine lv_aload_n hx hb dX1_lay_78 rfl (lv_at hl 1 rfl) ?_
        refine va_get (D := D) (ci := 1) (v := .ref (ad 9)) (C := RX1) (T := TX1) (N := 8) hx hb hts k_1 hown hK.1 hg.1 2 rfl rfl 2 (by decide) k_6 (fun _ h9 => h9) rfl dX1_lay_79 ?_
        refine lv_iload_n hx hb dX1_lay_82 rfl (lv_at hl 0 rfl) ?_
        refine lv_iconst (v := (1)) hx hb dX1_lay_83 (by decide) ?_
        refine lv_iadd hx hb dX1_lay_84 ?_
        refine lv_aload_n hx hb dX1_lay_85 rfl (lv_at hl 1 rfl) ?_
        refine va_get (D := D) (ci := 1) (v := .ref (ad 8)) (C := RX1) (T := TX1) (N := 8) hx hb hts k_1 hown hK.1 hg.1 2 rfl rfl 1 (by decide) k_4 (fun _ h9 => h9) rfl dX1_lay_86 ?_
        refine lv_iload_n hx hb dX1_lay_89 rfl (lv_at hl 0 rfl) ?_
        obtain ⟨v26, i27, e28, h⟩ := fl_rd_b h
        refine g_ld (n := 40) (t0 := 5) hx hb hK hg (wc_a5 ad cz _) rfl i27 e28 dX1_lay_90 ?_
        obtain ⟨σ29, i30, e31, h⟩ := fl_wr_b h
        refine g_st (n := 40) (t0 := 6) hx hb hK hg (wc_a6 ad cz _) (wc_s6 ad cz _) rfl i30 e31 dX1_lay_91 (fun H locs hg => ?_)
        refine lv_aload_n hx hb dX1_lay_92 rfl (lv_at hl 1 rfl) ?_
        refine va_get (D := D) (ci := 1) (v := .ref (ad 10)) (C := RX1) (T := TX1) (N := 8) hx hb hts k_1 hown hK.1 hg.1 2 rfl rfl 3 (by decide) k_8 (fun _ h9 => h9) rfl dX1_lay_93 ?_
        refine lv_iload_n hx hb dX1_lay_96 rfl (lv_at hl 0 rfl) ?_
        refine lv_iconst (v := (1)) hx hb dX1_lay_97 (by decide) ?_
        refine lv_iadd hx hb dX1_lay_98 ?_
        refine lv_aload_n hx hb dX1_lay_99 rfl (lv_at hl 1 rfl) ?_
        refine va_get (D := D) (ci := 1) (v := .ref (ad 10)) (C := RX1) (T := TX1) (N := 8) hx hb hts k_1 hown hK.1 hg.1 2 rfl rfl 3 (by decide) k_8 (fun _ h9 => h9) rfl dX1_lay_100 ?_
        refine lv_iload_n hx hb dX1_lay_103 rfl (lv_at hl 0 rfl) ?_
        obtain ⟨v32, i33, e34, h⟩ := fl_rd_b h
        refine g_ld (n := 40) (t0 := 7) hx hb hK hg (wc_a7 ad cz _) rfl i33 e34 dX1_lay_104 ?_
        refine lv_ineg hx hb dX1_lay_105 ?_
        obtain ⟨σ35, i36, e37, h⟩ := fl_wr_b h
        refine g_st (n := 40) (t0 := 7) hx hb hK hg (wc_a7 ad cz _) (wc_s7 ad cz _) rfl i36 e37 dX1_lay_106 (fun H locs hg => ?_)
        refine lv_iinc (v := (x2 + 1)) (lv' := [(2, .int (x2 + 1)), (3, .int ((2) * x2)), (0, .ref (ad 2)), (1, .int x1)]) hx hb dX1_lay_107 hl (k := 3) rfl rfl (by decide) rfl (fun ls hl => ?_)
        refine lv_goto (tgt := 2) hx hb dX1_lay_110 (by decide) ?_
        exact ih _ _ _ _ _ _ _ h hg (lv_sub hl [2, 3, 0] rfl) kk0
  unfold f_X1_lay at h
  have W0 : ∀ (H : Heap) (locs : List Loc), gS D (wc ad cz) A s.heap σ H locs → W p l e rm_X1_lay s m args below meth c H locs 0 0 Q (F0 m 0 ls []) := by
    intro H locs hg
    refine lv_iconst (v := (0)) hx hb dX1_lay_0 (by decide) ?_
    refine lv_istore_n (lv' := [(2, .int (0)), (0, .ref (ad 2)), (1, .int x1)]) hx hb dX1_lay_1 rfl hl (by decide) rfl (fun ls hl => ?_)
    obtain ⟨σ38, hB39, h⟩ := fl_bnd h
    refine L2 fl_N _ _ _ _ H locs ls hB39 hg (lv_sub hl [1, 2, 0] rfl) (fun H locs ls hg hl => ?_)
    exact hret _ _ _ _ _ h hg dX1_lay_113
  exact W0 _ _ hg
def f_X1_isBalanced_l2 (σ : fl_St) : Nat → Int32 → Option (Nat)
  | 0, _ => none
  | n + 1, x1 => if (8) ≤ x1 then (some (0)) else ((fl_rd σ 9 8 x1).bind fun v2 => if v2 = 0 then (f_X1_isBalanced_l2 σ n (x1 + 1)) else (some (1)))
def f_X1_isBalanced (σ : fl_St) : Option (Int32) := (f_X1_isBalanced_l2 σ fl_N (0)).bind fun (ix6 : Nat) => if ix6 = 0 then (some (1)) else (some (0))
def rm_X1_isBalanced : Room := { frames := 0, cells := 0, slots := 0, locals := 0 }
set_option maxHeartbeats 4000000 in
set_option maxRecDepth 100000 in
theorem c_X1_isBalanced (l : Launch) (D : va_G) (ad : Nat → Nat) (cz : Nat → ClassId) (σ : fl_St) {r : Int32} (h : f_X1_isBalanced σ = some r) : gMi l yX1_isBalanced wsX1_isBalanced rm_X1_isBalanced D (wc ad cz) (wcT cz) wcN [.ref (ad 2)] σ r σ := by
  refine gMi_of (cc := cX1_isBalanced) (maxL := 2) (by decide) rfl (Nat.le_of_ble_eq_true rfl) ?_
  intro p e s m args below meth c A Q ls hx hb hml hown hts hK hA hg hl hret
  have hown : s.vm.findClass RX1 = some m.cls := hown
  have hl : lv_has ls 2 [(0, .ref (ad 2))] := hl
  have k_0 := hts (.fieldLink RX1 31 "FlowLedger$Router" "excess" "[I") (by decide +kernel)
  have k_1 := (by decide +kernel : ∀ w ∈ wsX10, w ∈ wsX1_isBalanced)
  have L2 : ∀ (n : Nat) (σ : fl_St) (x1 : Int32) (ox : Nat) (H : Heap) (locs : List Loc) (ls : Array Slot), f_X1_isBalanced_l2 σ n x1 = some (ox) → gS D (wc ad cz) A s.heap σ H locs → lv_has ls 2 [(0, .ref (ad 2)), (1, .int x1)] → (∀ (H : Heap) (locs : List Loc) (ls : Array Slot), ox = 0 → gS D (wc ad cz) A s.heap σ H locs → lv_has ls 2 [] → W p l e rm_X1_isBalanced s m args below meth c H locs 0 0 Q (F0 m 25 ls [])) → (∀ (H : Heap) (locs : List Loc) (ls : Array Slot), ox = 1 → gS D (wc ad cz) A s.heap σ H locs → lv_has ls 2 [] → W p l e rm_X1_isBalanced s m args below meth c H locs 0 0 Q (F0 m 17 ls [])) → W p l e rm_X1_isBalanced s m args below meth c H locs 0 0 Q (F0 m 2 ls []) := by
    intro n
    induction n with
    | zero =>
      intro σ x1 ox H locs ls h hg hl kk0 kk1
      rw [f_X1_isBalanced_l2] at h
      cases h
    | succ n ih =>
      intro σ x1 ox H locs ls h hg hl kk0 kk1
      rw [f_X1_isBalanced_l2] at h
      refine lv_iload_n hx hb dX1_isBalanced_2 rfl (lv_at hl 1 rfl) ?_
      refine lv_bipush (v := (8)) hx hb dX1_isBalanced_3 (by decide) ?_
      refine lv_icmp_ge (tgt := 25) hx hb dX1_isBalanced_5 (by decide) (fun c1 => ?_) (fun c1 => ?_)
      · have h := fl_ifp c1 h
        obtain rfl := fl_s1 h
        exact kk0 H locs ls rfl hg (lv_sub hl [] rfl)
      · have h := fl_ifn c1 h
        refine lv_aload_n hx hb dX1_isBalanced_8 rfl (lv_at hl 0 rfl) ?_
        refine va_get (D := D) (ci := 1) (v := .ref (ad 12)) (C := RX1) (T := TX1) (N := 8) hx hb hts k_1 hown hK.1 hg.1 2 rfl rfl 5 (by decide) k_0 (fun _ h9 => h9) rfl dX1_isBalanced_9 ?_
        refine lv_iload_n hx hb dX1_isBalanced_12 rfl (lv_at hl 1 rfl) ?_
        obtain ⟨v2, i3, e4, h⟩ := fl_rd_b h
        refine g_ld (n := 8) (t0 := 9) hx hb hK hg (wc_a9 ad cz _) rfl i3 e4 dX1_isBalanced_13 ?_
        refine lv_if_eq (tgt := 19) hx hb dX1_isBalanced_14 (by decide) (fun c5 => ?_) (fun c5 => ?_)
        · have h := fl_ifp c5 h
          refine lv_iinc (v := (x1 + 1)) (lv' := [(1, .int (x1 + 1)), (0, .ref (ad 2))]) hx hb dX1_isBalanced_19 hl (k := 1) rfl rfl (by decide) rfl (fun ls hl => ?_)
          refine lv_goto (tgt := 2) hx hb dX1_isBalanced_22 (by decide) ?_
          exact ih _ _ _ _ _ _ h hg (lv_sub hl [1, 0] rfl) kk0 kk1
        · have h := fl_ifn c5 h
          obtain rfl := fl_s1 h
          exact kk1 H locs ls rfl hg (lv_sub hl [] rfl)
  unfold f_X1_isBalanced at h
  have W0 : ∀ (H : Heap) (locs : List Loc), gS D (wc ad cz) A s.heap σ H locs → W p l e rm_X1_isBalanced s m args below meth c H locs 0 0 Q (F0 m 0 ls []) := by
    intro H locs hg
    refine lv_iconst (v := (0)) hx hb dX1_isBalanced_0 (by decide) ?_
    refine lv_istore_n (lv' := [(1, .int (0)), (0, .ref (ad 2))]) hx hb dX1_isBalanced_1 rfl hl (by decide) rfl (fun ls hl => ?_)
    obtain ⟨ix6, hB7, h⟩ := fl_bnd h
    refine L2 fl_N _ _ _ H locs ls hB7 hg (lv_sub hl [1, 0] rfl) (fun H locs ls e0 hg hl => ?_) (fun H locs ls e0 hg hl => ?_)
    · have h := fl_ifp e0 h
      refine lv_iconst (v := (1)) hx hb dX1_isBalanced_25 (by decide) ?_
      exact hret _ _ _ _ _ _ (congrArg (Option.map (fun q => (q, σ))) h) hg rfl dX1_isBalanced_26
    · have h := fl_ifn (by rw [e0]; decide) h
      refine lv_iconst (v := (0)) hx hb dX1_isBalanced_17 (by decide) ?_
      exact hret _ _ _ _ _ _ (congrArg (Option.map (fun q => (q, σ))) h) hg rfl dX1_isBalanced_18
  exact W0 _ _ hg
def f_X1_totalExcess (σ : fl_St) : Option (Int32) := (f_X2_sumAboveZero 9 σ).bind fun r2 => some r2
def rm_X1_totalExcess : Room := { frames := 2, cells := 0, slots := 0, locals := 46 }
set_option maxHeartbeats 4000000 in
set_option maxRecDepth 100000 in
theorem c_X1_totalExcess (l : Launch) (D : va_G) (ad : Nat → Nat) (cz : Nat → ClassId) (σ : fl_St) {r : Int32} (h : f_X1_totalExcess σ = some r) : gMi l yX1_totalExcess wsX1_totalExcess rm_X1_totalExcess D (wc ad cz) (wcT cz) wcN [.ref (ad 2)] σ r σ := by
  refine gMi_of (cc := cX1_totalExcess) (maxL := 1) (by decide) rfl (Nat.le_of_ble_eq_true rfl) ?_
  intro p e s m args below meth c A Q ls hx hb hml hown hts hK hA hg hl hret
  have hown : s.vm.findClass RX1 = some m.cls := hown
  have hl : lv_has ls 1 [(0, .ref (ad 2))] := hl
  have k_0 := hts (.fieldLink RX1 31 "FlowLedger$Router" "excess" "[I") (by decide +kernel)
  have k_1 := (by decide +kernel : ∀ w ∈ wsX10, w ∈ wsX1_totalExcess)
  have k_2 := hts (.initialized RX2) (by decide +kernel)
  have k_3 := hts (.static yX2_sumAboveZero) (by decide +kernel)
  unfold f_X1_totalExcess at h
  have W0 : ∀ (H : Heap) (locs : List Loc), gS D (wc ad cz) A s.heap σ H locs → W p l e rm_X1_totalExcess s m args below meth c H locs 0 0 Q (F0 m 0 ls []) := by
    intro H locs hg
    refine lv_aload_n hx hb dX1_totalExcess_0 rfl (lv_at hl 0 rfl) ?_
    refine va_get (D := D) (ci := 1) (v := .ref (ad 12)) (C := RX1) (T := TX1) (N := 8) hx hb hts k_1 hown hK.1 hg.1 2 rfl rfl 5 (by decide) k_0 (fun _ h9 => h9) rfl dX1_totalExcess_1 ?_
    obtain ⟨r2, e1, h⟩ := fl_bnd h
    refine g_callNi (As := [.ref (ad 12)]) (rest := []) (host := RX2) ⟨hx, hb, hml, hown, hts⟩ (c_X2_sumAboveZero l D ad cz (Or.inr rfl) (σ) e1) ⟨va_cnB 1 hts gX1_totalExcess_X2_sumAboveZero_n66 rfl rfl rfl (hK.2 (RX1, 66, yX2_sumAboveZero, RX2) (by simp [wcN])) k_2 (by decide +kernel) ⟨Nat.le_of_ble_eq_true rfl, Nat.le_of_ble_eq_true rfl⟩, k_3, trivial⟩ hK hA hg rfl hl.1 rfl (Nat.le_of_ble_eq_true rfl) dX1_totalExcess_4 ⟨Nat.le_of_ble_eq_true rfl, Nat.le_of_ble_eq_true rfl⟩ (fun H locs hg => ?_)
    exact hret _ _ _ _ _ _ (congrArg (Option.map (fun q => (q, σ))) h) hg rfl dX1_totalExcess_7
  exact W0 _ _ hg
def f_X1_costOfFlow_l4 (σ : fl_St) : Nat → Int32 → Int32 → Option (Int32)
  | 0, _, _ => none
  | n + 1, x1, x2 => if (σ 12 0) ≤ x2 then (some (x1)) else ((fl_rd σ 3 20 x2).bind fun v2 => (fl_rd σ 8 40 (((2) * x2) + (1))).bind fun v5 => f_X1_costOfFlow_l4 σ n (x1 + (v2 * v5)) (x2 + 1))
def f_X1_costOfFlow (σ : fl_St) : Option (Int32) := (f_X1_costOfFlow_l4 σ fl_N (0) (0)).bind fun (w8 : Int32) => some w8
def rm_X1_costOfFlow : Room := { frames := 0, cells := 0, slots := 0, locals := 0 }
set_option maxHeartbeats 4000000 in
set_option maxRecDepth 100000 in
theorem c_X1_costOfFlow (l : Launch) (D : va_G) (ad : Nat → Nat) (cz : Nat → ClassId) (σ : fl_St) {r : Int32} (h : f_X1_costOfFlow σ = some r) : gMi l yX1_costOfFlow wsX1_costOfFlow rm_X1_costOfFlow D (wc ad cz) (wcT cz) wcN [.ref (ad 2)] σ r σ := by
  refine gMi_of (cc := cX1_costOfFlow) (maxL := 3) (by decide) rfl (Nat.le_of_ble_eq_true rfl) ?_
  intro p e s m args below meth c A Q ls hx hb hml hown hts hK hA hg hl hret
  have hown : s.vm.findClass RX1 = some m.cls := hown
  have hl : lv_has ls 3 [(0, .ref (ad 2))] := hl
  have k_0 := hts (.fieldLink RX1 12 "FlowLedger$Router" "network" "LFlowLedger$Network;") (by decide +kernel)
  have k_1 := (by decide +kernel : ∀ w ∈ wsX10, w ∈ wsX1_costOfFlow)
  have k_2 := hts (.fieldLink RX1 40 "FlowLedger$Network" "count" "I") (by decide +kernel)
  have k_3 := (by decide +kernel : ∀ w ∈ wsX00, w ∈ wsX1_costOfFlow)
  have k_4 := hts (.fieldLink RX1 50 "FlowLedger$Network" "cost" "[I") (by decide +kernel)
  have k_5 := hts (.fieldLink RX1 28 "FlowLedger$Router" "room" "[I") (by decide +kernel)
  have L4 : ∀ (n : Nat) (σ : fl_St) (x1 : Int32) (x2 : Int32) (o1 : Int32) (H : Heap) (locs : List Loc) (ls : Array Slot), f_X1_costOfFlow_l4 σ n x1 x2 = some (o1) → gS D (wc ad cz) A s.heap σ H locs → lv_has ls 3 [(0, .ref (ad 2)), (1, .int x1), (2, .int x2)] → (∀ (H : Heap) (locs : List Loc) (ls : Array Slot), gS D (wc ad cz) A s.heap σ H locs → lv_has ls 3 [(1, .int o1)] → W p l e rm_X1_costOfFlow s m args below meth c H locs 0 0 Q (F0 m 44 ls [])) → W p l e rm_X1_costOfFlow s m args below meth c H locs 0 0 Q (F0 m 4 ls []) := by
    intro n
    induction n with
    | zero =>
      intro σ x1 x2 o1 H locs ls h hg hl kk0
      rw [f_X1_costOfFlow_l4] at h
      cases h
    | succ n ih =>
      intro σ x1 x2 o1 H locs ls h hg hl kk0
      rw [f_X1_costOfFlow_l4] at h
      refine lv_iload_n hx hb dX1_costOfFlow_4 rfl (lv_at hl 2 rfl) ?_
      refine lv_aload_n hx hb dX1_costOfFlow_5 rfl (lv_at hl 0 rfl) ?_
      refine va_get (D := D) (ci := 1) (v := .ref (ad 1)) (C := RX1) (T := TX1) (N := 8) hx hb hts k_1 hown hK.1 hg.1 2 rfl rfl 0 (by decide) k_0 (fun _ h9 => h9) rfl dX1_costOfFlow_6 ?_
      refine va_get (D := D) (ci := 0) (v := .int (σ 12 0)) (C := RX0) (T := TX0) (N := 6) hx hb hts k_3 hown hK.1 hg.1 1 rfl rfl 5 (by decide) k_2 (fun _ h9 => h9) rfl dX1_costOfFlow_9 ?_
      refine lv_icmp_ge (tgt := 44) hx hb dX1_costOfFlow_12 (by decide) (fun c1 => ?_) (fun c1 => ?_)
      · have h := fl_ifp c1 h
        obtain rfl := fl_s1 h
        exact kk0 H locs ls hg (lv_sub hl [1] rfl)
      · have h := fl_ifn c1 h
        refine lv_iload_n hx hb dX1_costOfFlow_15 rfl (lv_at hl 1 rfl) ?_
        refine lv_aload_n hx hb dX1_costOfFlow_16 rfl (lv_at hl 0 rfl) ?_
        refine va_get (D := D) (ci := 1) (v := .ref (ad 1)) (C := RX1) (T := TX1) (N := 8) hx hb hts k_1 hown hK.1 hg.1 2 rfl rfl 0 (by decide) k_0 (fun _ h9 => h9) rfl dX1_costOfFlow_17 ?_
        refine va_get (D := D) (ci := 0) (v := .ref (ad 6)) (C := RX0) (T := TX0) (N := 6) hx hb hts k_3 hown hK.1 hg.1 1 rfl rfl 3 (by decide) k_4 (fun _ h9 => h9) rfl dX1_costOfFlow_20 ?_
        refine lv_iload_n hx hb dX1_costOfFlow_23 rfl (lv_at hl 2 rfl) ?_
        obtain ⟨v2, i3, e4, h⟩ := fl_rd_b h
        refine g_ld (n := 20) (t0 := 3) hx hb hK hg (wc_a3 ad cz _) rfl i3 e4 dX1_costOfFlow_24 ?_
        refine lv_aload_n hx hb dX1_costOfFlow_25 rfl (lv_at hl 0 rfl) ?_
        refine va_get (D := D) (ci := 1) (v := .ref (ad 11)) (C := RX1) (T := TX1) (N := 8) hx hb hts k_1 hown hK.1 hg.1 2 rfl rfl 4 (by decide) k_5 (fun _ h9 => h9) rfl dX1_costOfFlow_26 ?_
        refine lv_iconst (v := (2)) hx hb dX1_costOfFlow_29 (by decide) ?_
        refine lv_iload_n hx hb dX1_costOfFlow_30 rfl (lv_at hl 2 rfl) ?_
        refine lv_imul hx hb dX1_costOfFlow_31 ?_
        refine lv_iconst (v := (1)) hx hb dX1_costOfFlow_32 (by decide) ?_
        refine lv_iadd hx hb dX1_costOfFlow_33 ?_
        obtain ⟨v5, i6, e7, h⟩ := fl_rd_b h
        refine g_ld (n := 40) (t0 := 8) hx hb hK hg (wc_a8 ad cz _) rfl i6 e7 dX1_costOfFlow_34 ?_
        refine lv_imul hx hb dX1_costOfFlow_35 ?_
        refine lv_iadd hx hb dX1_costOfFlow_36 ?_
        refine lv_istore_n (lv' := [(1, .int (x1 + (v2 * v5))), (0, .ref (ad 2)), (2, .int x2)]) hx hb dX1_costOfFlow_37 rfl hl (by decide) rfl (fun ls hl => ?_)
        refine lv_iinc (v := (x2 + 1)) (lv' := [(2, .int (x2 + 1)), (1, .int (x1 + (v2 * v5))), (0, .ref (ad 2))]) hx hb dX1_costOfFlow_38 hl (k := 2) rfl rfl (by decide) rfl (fun ls hl => ?_)
        refine lv_goto (tgt := 4) hx hb dX1_costOfFlow_41 (by decide) ?_
        exact ih _ _ _ _ _ _ _ h hg (lv_sub hl [2, 1, 0] rfl) kk0
  unfold f_X1_costOfFlow at h
  have W0 : ∀ (H : Heap) (locs : List Loc), gS D (wc ad cz) A s.heap σ H locs → W p l e rm_X1_costOfFlow s m args below meth c H locs 0 0 Q (F0 m 0 ls []) := by
    intro H locs hg
    refine lv_iconst (v := (0)) hx hb dX1_costOfFlow_0 (by decide) ?_
    refine lv_istore_n (lv' := [(1, .int (0)), (0, .ref (ad 2))]) hx hb dX1_costOfFlow_1 rfl hl (by decide) rfl (fun ls hl => ?_)
    refine lv_iconst (v := (0)) hx hb dX1_costOfFlow_2 (by decide) ?_
    refine lv_istore_n (lv' := [(2, .int (0)), (1, .int (0)), (0, .ref (ad 2))]) hx hb dX1_costOfFlow_3 rfl hl (by decide) rfl (fun ls hl => ?_)
    obtain ⟨w8, hB9, h⟩ := fl_bnd h
    refine L4 fl_N _ _ _ _ H locs ls hB9 hg (lv_sub hl [2, 1, 0] rfl) (fun H locs ls hg hl => ?_)
    refine lv_iload_n hx hb dX1_costOfFlow_44 rfl (lv_at hl 0 rfl) ?_
    exact hret _ _ _ _ _ _ (congrArg (Option.map (fun q => (q, σ))) h) hg rfl dX1_costOfFlow_45
  exact W0 _ _ hg
