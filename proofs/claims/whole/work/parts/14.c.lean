def f_X2_state (σ : fl_St) : Option (Int32 × fl_St) := (f_X1_lay (1) σ).bind fun σ2 => fl_b2 (f_X1_route  σ2) fun r4 σ5 => if r4 = 0 then ((f_X1_lay (0) σ5).bind fun σ8 => fl_b2 (f_X1_route  σ8) fun r10 σ11 => (f_X1_isBalanced  σ11).bind fun r13 => (if r13 = 0 then (some ((-1000002))) else (some ((-1000003)))).bind fun (t15 : Int32) => some (t15, σ11)) else ((f_X1_isBalanced  σ5).bind fun r19 => (if r19 = 0 then (some ((-1000002))) else (some ((0)))).bind fun (t21 : Int32) => some (t21, σ5))
def rm_X2_state : Room := { frames := 4, cells := 0, slots := 0, locals := 92 }
set_option maxHeartbeats 4000000 in
set_option maxRecDepth 100000 in
theorem c_X2_state (l : Launch) (D : va_G) (ad : Nat → Nat) (cz : Nat → ClassId) (σ : fl_St) {r : Int32} {σ' : fl_St} (h : f_X2_state σ = some (r, σ')) : gMi l yX2_state wsX2_state rm_X2_state D (wc ad cz) (wcT cz) wcN [.ref (ad 0)] σ r σ' := by
  refine gMi_of (cc := cX2_state) (maxL := 1) (by decide) rfl (Nat.le_of_ble_eq_true rfl) ?_
  intro p e s m args below meth c A Q ls hx hb hml hown hts hK hA hg hl hret
  have hown : s.vm.findClass RX2 = some m.cls := hown
  have hl : lv_has ls 1 [(0, .ref (ad 0))] := hl
  have k_0 := hts (.fieldLink RX2 12 "FlowLedger" "router" "LFlowLedger$Router;") (by decide +kernel)
  have k_1 := (by decide +kernel : ∀ w ∈ wsX20, w ∈ wsX2_state)
  have k_2 := hts (.constant RX2 67 (-1000002)) (by decide +kernel)
  have k_3 := hts (.constant RX2 68 (-1000003)) (by decide +kernel)
  unfold f_X2_state at h
  have W0 : ∀ (H : Heap) (locs : List Loc), gS D (wc ad cz) A s.heap σ H locs → W p l e rm_X2_state s m args below meth c H locs 0 0 Q (F0 m 0 ls []) := by
    intro H locs hg
    refine lv_aload_n hx hb dX2_state_0 rfl (lv_at hl 0 rfl) ?_
    refine va_get (D := D) (ci := 2) (v := .ref (ad 2)) (C := RX2) (T := TX2) (N := 2) hx hb hts k_1 hown hK.1 hg.1 0 rfl rfl 0 (by decide) k_0 (fun _ h9 => h9) rfl dX2_state_1 ?_
    refine lv_iconst (v := (1)) hx hb dX2_state_4 (by decide) ?_
    obtain ⟨σ2, e1, h⟩ := fl_bnd h
    refine g_callVv (As := [.int (1)]) (rest := []) ⟨hx, hb, hml, hown, hts⟩ (c_X1_lay l D ad cz ((1)) (σ) e1) (cwV 1 hts gX2_state_X1_lay rfl rfl rfl (by decide +kernel) ⟨Nat.le_of_ble_eq_true rfl, Nat.le_of_ble_eq_true rfl⟩) (va_recv hK.1 hg.1 (ci := 1) (q0 := 2) rfl rfl) hK hA hg rfl hl.1 rfl (Nat.le_of_ble_eq_true rfl) dX2_state_5 ⟨Nat.le_of_ble_eq_true rfl, Nat.le_of_ble_eq_true rfl⟩ (fun H locs hg => ?_)
    refine lv_aload_n hx hb dX2_state_8 rfl (lv_at hl 0 rfl) ?_
    refine va_get (D := D) (ci := 2) (v := .ref (ad 2)) (C := RX2) (T := TX2) (N := 2) hx hb hts k_1 hown hK.1 hg.1 0 rfl rfl 0 (by decide) k_0 (fun _ h9 => h9) rfl dX2_state_9 ?_
    obtain ⟨r4, σ5, e3, h⟩ := fl_b2_b h
    refine g_callVi (As := []) (rest := []) ⟨hx, hb, hml, hown, hts⟩ (c_X1_route l D ad cz (σ2) e3) (cwV 0 hts gX2_state_X1_route rfl rfl rfl (by decide +kernel) ⟨Nat.le_of_ble_eq_true rfl, Nat.le_of_ble_eq_true rfl⟩) (va_recv hK.1 hg.1 (ci := 1) (q0 := 2) rfl rfl) hK hA hg rfl hl.1 rfl (Nat.le_of_ble_eq_true rfl) dX2_state_12 ⟨Nat.le_of_ble_eq_true rfl, Nat.le_of_ble_eq_true rfl⟩ (fun H locs hg => ?_)
    refine lv_if_eq (tgt := 35) hx hb dX2_state_15 (by decide) (fun c6 => ?_) (fun c6 => ?_)
    · have h := fl_ifp c6 h
      refine lv_aload_n hx hb dX2_state_35 rfl (lv_at hl 0 rfl) ?_
      refine va_get (D := D) (ci := 2) (v := .ref (ad 2)) (C := RX2) (T := TX2) (N := 2) hx hb hts k_1 hown hK.1 hg.1 0 rfl rfl 0 (by decide) k_0 (fun _ h9 => h9) rfl dX2_state_36 ?_
      refine lv_iconst (v := (0)) hx hb dX2_state_39 (by decide) ?_
      obtain ⟨σ8, e7, h⟩ := fl_bnd h
      refine g_callVv (As := [.int (0)]) (rest := []) ⟨hx, hb, hml, hown, hts⟩ (c_X1_lay l D ad cz ((0)) (σ5) e7) (cwV 1 hts gX2_state_X1_lay rfl rfl rfl (by decide +kernel) ⟨Nat.le_of_ble_eq_true rfl, Nat.le_of_ble_eq_true rfl⟩) (va_recv hK.1 hg.1 (ci := 1) (q0 := 2) rfl rfl) hK hA hg rfl hl.1 rfl (Nat.le_of_ble_eq_true rfl) dX2_state_40 ⟨Nat.le_of_ble_eq_true rfl, Nat.le_of_ble_eq_true rfl⟩ (fun H locs hg => ?_)
      refine lv_aload_n hx hb dX2_state_43 rfl (lv_at hl 0 rfl) ?_
      refine va_get (D := D) (ci := 2) (v := .ref (ad 2)) (C := RX2) (T := TX2) (N := 2) hx hb hts k_1 hown hK.1 hg.1 0 rfl rfl 0 (by decide) k_0 (fun _ h9 => h9) rfl dX2_state_44 ?_
      obtain ⟨r10, σ11, e9, h⟩ := fl_b2_b h
      refine g_callVi (As := []) (rest := []) ⟨hx, hb, hml, hown, hts⟩ (c_X1_route l D ad cz (σ8) e9) (cwV 0 hts gX2_state_X1_route rfl rfl rfl (by decide +kernel) ⟨Nat.le_of_ble_eq_true rfl, Nat.le_of_ble_eq_true rfl⟩) (va_recv hK.1 hg.1 (ci := 1) (q0 := 2) rfl rfl) hK hA hg rfl hl.1 rfl (Nat.le_of_ble_eq_true rfl) dX2_state_47 ⟨Nat.le_of_ble_eq_true rfl, Nat.le_of_ble_eq_true rfl⟩ (fun H locs hg => ?_)
      refine lv_pop hx hb dX2_state_50 rfl ?_
      refine lv_aload_n hx hb dX2_state_51 rfl (lv_at hl 0 rfl) ?_
      refine va_get (D := D) (ci := 2) (v := .ref (ad 2)) (C := RX2) (T := TX2) (N := 2) hx hb hts k_1 hown hK.1 hg.1 0 rfl rfl 0 (by decide) k_0 (fun _ h9 => h9) rfl dX2_state_52 ?_
      obtain ⟨r13, e12, h⟩ := fl_bnd h
      refine g_callVi (As := []) (rest := []) ⟨hx, hb, hml, hown, hts⟩ (c_X1_isBalanced l D ad cz (σ11) e12) (cwV 0 hts gX2_state_X1_isBalanced rfl rfl rfl (by decide +kernel) ⟨Nat.le_of_ble_eq_true rfl, Nat.le_of_ble_eq_true rfl⟩) (va_recv hK.1 hg.1 (ci := 1) (q0 := 2) rfl rfl) hK hA hg rfl hl.1 rfl (Nat.le_of_ble_eq_true rfl) dX2_state_55 ⟨Nat.le_of_ble_eq_true rfl, Nat.le_of_ble_eq_true rfl⟩ (fun H locs hg => ?_)
      obtain ⟨t15, hB17, h⟩ := fl_bnd h
      have J16 : ∀ (H : Heap) (locs : List Loc) (ls : Array Slot), gS D (wc ad cz) A s.heap σ11 H locs → lv_has ls 1 [] → W p l e rm_X2_state s m args below meth c H locs 0 0 Q (F0 m 68 ls [.int t15]) := by
        intro H locs ls hg hl
        exact hret _ _ _ _ _ _ h hg rfl dX2_state_68
      clear h
      have h := hB17
      refine lv_if_eq (tgt := 66) hx hb dX2_state_58 (by decide) (fun c14 => ?_) (fun c14 => ?_)
      · have h := fl_ifp c14 h
        refine lv_ldc hx hb hown k_2 dX2_state_66 ?_
        obtain rfl := fl_s1 h
        exact J16 H locs ls hg (lv_sub hl [] rfl)
      · have h := fl_ifn c14 h
        refine lv_ldc hx hb hown k_3 dX2_state_61 ?_
        refine lv_goto (tgt := 68) hx hb dX2_state_63 (by decide) ?_
        obtain rfl := fl_s1 h
        exact J16 H locs ls hg (lv_sub hl [] rfl)
    · have h := fl_ifn c6 h
      refine lv_aload_n hx hb dX2_state_18 rfl (lv_at hl 0 rfl) ?_
      refine va_get (D := D) (ci := 2) (v := .ref (ad 2)) (C := RX2) (T := TX2) (N := 2) hx hb hts k_1 hown hK.1 hg.1 0 rfl rfl 0 (by decide) k_0 (fun _ h9 => h9) rfl dX2_state_19 ?_
      obtain ⟨r19, e18, h⟩ := fl_bnd h
      refine g_callVi (As := []) (rest := []) ⟨hx, hb, hml, hown, hts⟩ (c_X1_isBalanced l D ad cz (σ5) e18) (cwV 0 hts gX2_state_X1_isBalanced rfl rfl rfl (by decide +kernel) ⟨Nat.le_of_ble_eq_true rfl, Nat.le_of_ble_eq_true rfl⟩) (va_recv hK.1 hg.1 (ci := 1) (q0 := 2) rfl rfl) hK hA hg rfl hl.1 rfl (Nat.le_of_ble_eq_true rfl) dX2_state_22 ⟨Nat.le_of_ble_eq_true rfl, Nat.le_of_ble_eq_true rfl⟩ (fun H locs hg => ?_)
      obtain ⟨t21, hB23, h⟩ := fl_bnd h
      have J22 : ∀ (H : Heap) (locs : List Loc) (ls : Array Slot), gS D (wc ad cz) A s.heap σ5 H locs → lv_has ls 1 [] → W p l e rm_X2_state s m args below meth c H locs 0 0 Q (F0 m 34 ls [.int t21]) := by
        intro H locs ls hg hl
        exact hret _ _ _ _ _ _ h hg rfl dX2_state_34
      clear h
      have h := hB23
      refine lv_if_eq (tgt := 32) hx hb dX2_state_25 (by decide) (fun c20 => ?_) (fun c20 => ?_)
      · have h := fl_ifp c20 h
        refine lv_ldc hx hb hown k_2 dX2_state_32 ?_
        obtain rfl := fl_s1 h
        exact J22 H locs ls hg (lv_sub hl [] rfl)
      · have h := fl_ifn c20 h
        refine lv_iconst (v := (0)) hx hb dX2_state_28 (by decide) ?_
        refine lv_goto (tgt := 34) hx hb dX2_state_29 (by decide) ?_
        obtain rfl := fl_s1 h
        exact J22 H locs ls hg (lv_sub hl [] rfl)
  exact W0 _ _ hg
def f_X2_cost (σ : fl_St) : Option (Int32 × fl_St) := fl_b2 (f_X2_state  σ) fun r2 σ3 => (if r2 = 0 then ((f_X1_costOfFlow  σ3).bind fun r9 => some (r9)) else (some (r2))).bind fun (t5 : Int32) => some (t5, σ3)
def rm_X2_cost : Room := { frames := 5, cells := 0, slots := 0, locals := 112 }
set_option maxHeartbeats 4000000 in
set_option maxRecDepth 100000 in
theorem c_X2_cost (l : Launch) (D : va_G) (ad : Nat → Nat) (cz : Nat → ClassId) (σ : fl_St) {r : Int32} {σ' : fl_St} (h : f_X2_cost σ = some (r, σ')) : gMi l yX2_cost wsX2_cost rm_X2_cost D (wc ad cz) (wcT cz) wcN [.ref (ad 0)] σ r σ' := by
  refine gMi_of (cc := cX2_cost) (maxL := 2) (by decide) rfl (Nat.le_of_ble_eq_true rfl) ?_
  intro p e s m args below meth c A Q ls hx hb hml hown hts hK hA hg hl hret
  have hown : s.vm.findClass RX2 = some m.cls := hown
  have hl : lv_has ls 2 [(0, .ref (ad 0))] := hl
  have k_0 := hts (.fieldLink RX2 12 "FlowLedger" "router" "LFlowLedger$Router;") (by decide +kernel)
  have k_1 := (by decide +kernel : ∀ w ∈ wsX20, w ∈ wsX2_cost)
  unfold f_X2_cost at h
  have W0 : ∀ (H : Heap) (locs : List Loc), gS D (wc ad cz) A s.heap σ H locs → W p l e rm_X2_cost s m args below meth c H locs 0 0 Q (F0 m 0 ls []) := by
    intro H locs hg
    refine lv_aload_n hx hb dX2_cost_0 rfl (lv_at hl 0 rfl) ?_
    obtain ⟨r2, σ3, e1, h⟩ := fl_b2_b h
    refine g_callVi (As := []) (rest := []) ⟨hx, hb, hml, hown, hts⟩ (c_X2_state l D ad cz (σ) e1) (cwV 0 hts gX2_cost_X2_state rfl rfl rfl (by decide +kernel) ⟨Nat.le_of_ble_eq_true rfl, Nat.le_of_ble_eq_true rfl⟩) (va_recv hK.1 hg.1 (ci := 2) (q0 := 0) rfl rfl) hK hA hg rfl hl.1 rfl (Nat.le_of_ble_eq_true rfl) dX2_cost_1 ⟨Nat.le_of_ble_eq_true rfl, Nat.le_of_ble_eq_true rfl⟩ (fun H locs hg => ?_)
    refine lv_istore_n (lv' := [(1, .int r2), (0, .ref (ad 0))]) hx hb dX2_cost_4 rfl hl (by decide) rfl (fun ls hl => ?_)
    refine lv_iload_n hx hb dX2_cost_5 rfl (lv_at hl 0 rfl) ?_
    obtain ⟨t5, hB7, h⟩ := fl_bnd h
    have J6 : ∀ (H : Heap) (locs : List Loc) (ls : Array Slot), gS D (wc ad cz) A s.heap σ3 H locs → lv_has ls 2 [] → W p l e rm_X2_cost s m args below meth c H locs 0 0 Q (F0 m 20 ls [.int t5]) := by
      intro H locs ls hg hl
      exact hret _ _ _ _ _ _ h hg rfl dX2_cost_20
    clear h
    have h := hB7
    refine lv_if_ne (tgt := 19) hx hb dX2_cost_6 (by decide) (fun c4 => ?_) (fun c4 => ?_)
    · have h := fl_ifn c4 h
      refine lv_iload_n hx hb dX2_cost_19 rfl (lv_at hl 0 rfl) ?_
      obtain rfl := fl_s1 h
      exact J6 H locs ls hg (lv_sub hl [] rfl)
    · have h := fl_ifp c4 h
      refine lv_aload_n hx hb dX2_cost_9 rfl (lv_at hl 1 rfl) ?_
      refine va_get (D := D) (ci := 2) (v := .ref (ad 2)) (C := RX2) (T := TX2) (N := 2) hx hb hts k_1 hown hK.1 hg.1 0 rfl rfl 0 (by decide) k_0 (fun _ h9 => h9) rfl dX2_cost_10 ?_
      obtain ⟨r9, e8, h⟩ := fl_bnd h
      refine g_callVi (As := []) (rest := []) ⟨hx, hb, hml, hown, hts⟩ (c_X1_costOfFlow l D ad cz (σ3) e8) (cwV 0 hts gX2_cost_X1_costOfFlow rfl rfl rfl (by decide +kernel) ⟨Nat.le_of_ble_eq_true rfl, Nat.le_of_ble_eq_true rfl⟩) (va_recv hK.1 hg.1 (ci := 1) (q0 := 2) rfl rfl) hK hA hg rfl hl.1 rfl (Nat.le_of_ble_eq_true rfl) dX2_cost_13 ⟨Nat.le_of_ble_eq_true rfl, Nat.le_of_ble_eq_true rfl⟩ (fun H locs hg => ?_)
      refine lv_goto (tgt := 20) hx hb dX2_cost_16 (by decide) ?_
      obtain rfl := fl_s1 h
      exact J6 H locs ls hg (lv_sub hl [] rfl)
  exact W0 _ _ hg
def f_X2_amount (σ : fl_St) : Option (Int32 × fl_St) := (f_X1_lay (0) σ).bind fun σ2 => fl_b2 (f_X1_route  σ2) fun r4 σ5 => (f_X0_totalSupply  σ5).bind fun r7 => (f_X1_totalExcess  σ5).bind fun r9 => some ((r7 - r9), σ5)
def rm_X2_amount : Room := { frames := 4, cells := 0, slots := 0, locals := 92 }
set_option maxHeartbeats 4000000 in
set_option maxRecDepth 100000 in
theorem c_X2_amount (l : Launch) (D : va_G) (ad : Nat → Nat) (cz : Nat → ClassId) (σ : fl_St) {r : Int32} {σ' : fl_St} (h : f_X2_amount σ = some (r, σ')) : gMi l yX2_amount wsX2_amount rm_X2_amount D (wc ad cz) (wcT cz) wcN [.ref (ad 0)] σ r σ' := by
  refine gMi_of (cc := cX2_amount) (maxL := 1) (by decide) rfl (Nat.le_of_ble_eq_true rfl) ?_
  intro p e s m args below meth c A Q ls hx hb hml hown hts hK hA hg hl hret
  have hown : s.vm.findClass RX2 = some m.cls := hown
  have hl : lv_has ls 1 [(0, .ref (ad 0))] := hl
  have k_0 := hts (.fieldLink RX2 12 "FlowLedger" "router" "LFlowLedger$Router;") (by decide +kernel)
  have k_1 := (by decide +kernel : ∀ w ∈ wsX20, w ∈ wsX2_amount)
  have k_2 := hts (.fieldLink RX2 20 "FlowLedger" "network" "LFlowLedger$Network;") (by decide +kernel)
  unfold f_X2_amount at h
  have W0 : ∀ (H : Heap) (locs : List Loc), gS D (wc ad cz) A s.heap σ H locs → W p l e rm_X2_amount s m args below meth c H locs 0 0 Q (F0 m 0 ls []) := by
    intro H locs hg
    refine lv_aload_n hx hb dX2_amount_0 rfl (lv_at hl 0 rfl) ?_
    refine va_get (D := D) (ci := 2) (v := .ref (ad 2)) (C := RX2) (T := TX2) (N := 2) hx hb hts k_1 hown hK.1 hg.1 0 rfl rfl 0 (by decide) k_0 (fun _ h9 => h9) rfl dX2_amount_1 ?_
    refine lv_iconst (v := (0)) hx hb dX2_amount_4 (by decide) ?_
    obtain ⟨σ2, e1, h⟩ := fl_bnd h
    refine g_callVv (As := [.int (0)]) (rest := []) ⟨hx, hb, hml, hown, hts⟩ (c_X1_lay l D ad cz ((0)) (σ) e1) (cwV 1 hts gX2_amount_X1_lay rfl rfl rfl (by decide +kernel) ⟨Nat.le_of_ble_eq_true rfl, Nat.le_of_ble_eq_true rfl⟩) (va_recv hK.1 hg.1 (ci := 1) (q0 := 2) rfl rfl) hK hA hg rfl hl.1 rfl (Nat.le_of_ble_eq_true rfl) dX2_amount_5 ⟨Nat.le_of_ble_eq_true rfl, Nat.le_of_ble_eq_true rfl⟩ (fun H locs hg => ?_)
    refine lv_aload_n hx hb dX2_amount_8 rfl (lv_at hl 0 rfl) ?_
    refine va_get (D := D) (ci := 2) (v := .ref (ad 2)) (C := RX2) (T := TX2) (N := 2) hx hb hts k_1 hown hK.1 hg.1 0 rfl rfl 0 (by decide) k_0 (fun _ h9 => h9) rfl dX2_amount_9 ?_
    obtain ⟨r4, σ5, e3, h⟩ := fl_b2_b h
    refine g_callVi (As := []) (rest := []) ⟨hx, hb, hml, hown, hts⟩ (c_X1_route l D ad cz (σ2) e3) (cwV 0 hts gX2_amount_X1_route rfl rfl rfl (by decide +kernel) ⟨Nat.le_of_ble_eq_true rfl, Nat.le_of_ble_eq_true rfl⟩) (va_recv hK.1 hg.1 (ci := 1) (q0 := 2) rfl rfl) hK hA hg rfl hl.1 rfl (Nat.le_of_ble_eq_true rfl) dX2_amount_12 ⟨Nat.le_of_ble_eq_true rfl, Nat.le_of_ble_eq_true rfl⟩ (fun H locs hg => ?_)
    refine lv_pop hx hb dX2_amount_15 rfl ?_
    refine lv_aload_n hx hb dX2_amount_16 rfl (lv_at hl 0 rfl) ?_
    refine va_get (D := D) (ci := 2) (v := .ref (ad 1)) (C := RX2) (T := TX2) (N := 2) hx hb hts k_1 hown hK.1 hg.1 0 rfl rfl 1 (by decide) k_2 (fun _ h9 => h9) rfl dX2_amount_17 ?_
    obtain ⟨r7, e6, h⟩ := fl_bnd h
    refine g_callVi (As := []) (rest := []) ⟨hx, hb, hml, hown, hts⟩ (c_X0_totalSupply l D ad cz (σ5) e6) (cwV 0 hts gX2_amount_X0_totalSupply rfl rfl rfl (by decide +kernel) ⟨Nat.le_of_ble_eq_true rfl, Nat.le_of_ble_eq_true rfl⟩) (va_recv hK.1 hg.1 (ci := 0) (q0 := 1) rfl rfl) hK hA hg rfl hl.1 rfl (Nat.le_of_ble_eq_true rfl) dX2_amount_20 ⟨Nat.le_of_ble_eq_true rfl, Nat.le_of_ble_eq_true rfl⟩ (fun H locs hg => ?_)
    refine lv_aload_n hx hb dX2_amount_23 rfl (lv_at hl 0 rfl) ?_
    refine va_get (D := D) (ci := 2) (v := .ref (ad 2)) (C := RX2) (T := TX2) (N := 2) hx hb hts k_1 hown hK.1 hg.1 0 rfl rfl 0 (by decide) k_0 (fun _ h9 => h9) rfl dX2_amount_24 ?_
    obtain ⟨r9, e8, h⟩ := fl_bnd h
    refine g_callVi (As := []) (rest := [.int r7]) ⟨hx, hb, hml, hown, hts⟩ (c_X1_totalExcess l D ad cz (σ5) e8) (cwV 0 hts gX2_amount_X1_totalExcess rfl rfl rfl (by decide +kernel) ⟨Nat.le_of_ble_eq_true rfl, Nat.le_of_ble_eq_true rfl⟩) (va_recv hK.1 hg.1 (ci := 1) (q0 := 2) rfl rfl) hK hA hg rfl hl.1 rfl (Nat.le_of_ble_eq_true rfl) dX2_amount_27 ⟨Nat.le_of_ble_eq_true rfl, Nat.le_of_ble_eq_true rfl⟩ (fun H locs hg => ?_)
    refine lv_isub hx hb dX2_amount_30 ?_
    exact hret _ _ _ _ _ _ h hg rfl dX2_amount_31
  exact W0 _ _ hg
def f_X2_bottleneck (σ : fl_St) : Option (Int32 × fl_St) := (f_X1_lay (0) σ).bind fun σ2 => fl_b2 (f_X1_route  σ2) fun r4 σ5 => fl_b2 (f_X1_nodesBehindExcess  σ5) fun r7 σ8 => some (r7, σ8)
def rm_X2_bottleneck : Room := { frames := 4, cells := 0, slots := 0, locals := 92 }
set_option maxHeartbeats 4000000 in
set_option maxRecDepth 100000 in
theorem c_X2_bottleneck (l : Launch) (D : va_G) (ad : Nat → Nat) (cz : Nat → ClassId) (σ : fl_St) {r : Int32} {σ' : fl_St} (h : f_X2_bottleneck σ = some (r, σ')) : gMi l yX2_bottleneck wsX2_bottleneck rm_X2_bottleneck D (wc ad cz) (wcT cz) wcN [.ref (ad 0)] σ r σ' := by
  refine gMi_of (cc := cX2_bottleneck) (maxL := 1) (by decide) rfl (Nat.le_of_ble_eq_true rfl) ?_
  intro p e s m args below meth c A Q ls hx hb hml hown hts hK hA hg hl hret
  have hown : s.vm.findClass RX2 = some m.cls := hown
  have hl : lv_has ls 1 [(0, .ref (ad 0))] := hl
  have k_0 := hts (.fieldLink RX2 12 "FlowLedger" "router" "LFlowLedger$Router;") (by decide +kernel)
  have k_1 := (by decide +kernel : ∀ w ∈ wsX20, w ∈ wsX2_bottleneck)
  unfold f_X2_bottleneck at h
  have W0 : ∀ (H : Heap) (locs : List Loc), gS D (wc ad cz) A s.heap σ H locs → W p l e rm_X2_bottleneck s m args below meth c H locs 0 0 Q (F0 m 0 ls []) := by
    intro H locs hg
    refine lv_aload_n hx hb dX2_bottleneck_0 rfl (lv_at hl 0 rfl) ?_
    refine va_get (D := D) (ci := 2) (v := .ref (ad 2)) (C := RX2) (T := TX2) (N := 2) hx hb hts k_1 hown hK.1 hg.1 0 rfl rfl 0 (by decide) k_0 (fun _ h9 => h9) rfl dX2_bottleneck_1 ?_
    refine lv_iconst (v := (0)) hx hb dX2_bottleneck_4 (by decide) ?_
    obtain ⟨σ2, e1, h⟩ := fl_bnd h
    refine g_callVv (As := [.int (0)]) (rest := []) ⟨hx, hb, hml, hown, hts⟩ (c_X1_lay l D ad cz ((0)) (σ) e1) (cwV 1 hts gX2_bottleneck_X1_lay rfl rfl rfl (by decide +kernel) ⟨Nat.le_of_ble_eq_true rfl, Nat.le_of_ble_eq_true rfl⟩) (va_recv hK.1 hg.1 (ci := 1) (q0 := 2) rfl rfl) hK hA hg rfl hl.1 rfl (Nat.le_of_ble_eq_true rfl) dX2_bottleneck_5 ⟨Nat.le_of_ble_eq_true rfl, Nat.le_of_ble_eq_true rfl⟩ (fun H locs hg => ?_)
    refine lv_aload_n hx hb dX2_bottleneck_8 rfl (lv_at hl 0 rfl) ?_
    refine va_get (D := D) (ci := 2) (v := .ref (ad 2)) (C := RX2) (T := TX2) (N := 2) hx hb hts k_1 hown hK.1 hg.1 0 rfl rfl 0 (by decide) k_0 (fun _ h9 => h9) rfl dX2_bottleneck_9 ?_
    obtain ⟨r4, σ5, e3, h⟩ := fl_b2_b h
    refine g_callVi (As := []) (rest := []) ⟨hx, hb, hml, hown, hts⟩ (c_X1_route l D ad cz (σ2) e3) (cwV 0 hts gX2_bottleneck_X1_route rfl rfl rfl (by decide +kernel) ⟨Nat.le_of_ble_eq_true rfl, Nat.le_of_ble_eq_true rfl⟩) (va_recv hK.1 hg.1 (ci := 1) (q0 := 2) rfl rfl) hK hA hg rfl hl.1 rfl (Nat.le_of_ble_eq_true rfl) dX2_bottleneck_12 ⟨Nat.le_of_ble_eq_true rfl, Nat.le_of_ble_eq_true rfl⟩ (fun H locs hg => ?_)
    refine lv_pop hx hb dX2_bottleneck_15 rfl ?_
    refine lv_aload_n hx hb dX2_bottleneck_16 rfl (lv_at hl 0 rfl) ?_
    refine va_get (D := D) (ci := 2) (v := .ref (ad 2)) (C := RX2) (T := TX2) (N := 2) hx hb hts k_1 hown hK.1 hg.1 0 rfl rfl 0 (by decide) k_0 (fun _ h9 => h9) rfl dX2_bottleneck_17 ?_
    obtain ⟨r7, σ8, e6, h⟩ := fl_b2_b h
    refine g_callVi (As := []) (rest := []) ⟨hx, hb, hml, hown, hts⟩ (c_X1_nodesBehindExcess l D ad cz (σ5) e6) (cwV 0 hts gX2_bottleneck_X1_nodesBehindExcess rfl rfl rfl (by decide +kernel) ⟨Nat.le_of_ble_eq_true rfl, Nat.le_of_ble_eq_true rfl⟩) (va_recv hK.1 hg.1 (ci := 1) (q0 := 2) rfl rfl) hK hA hg rfl hl.1 rfl (Nat.le_of_ble_eq_true rfl) dX2_bottleneck_20 ⟨Nat.le_of_ble_eq_true rfl, Nat.le_of_ble_eq_true rfl⟩ (fun H locs hg => ?_)
    exact hret _ _ _ _ _ _ h hg rfl dX2_bottleneck_23
  exact W0 _ _ hg
def f_X2_marginal (x1 : Int32) (x2 : Int32) (σ : fl_St) : Option (Int32 × fl_St) := (f_X2_isNode x1 σ).bind fun r2 => if r2 = 0 then (some ((-1000000), σ)) else ((f_X2_isNode x2 σ).bind fun r5 => if r5 = 0 then (some ((-1000000), σ)) else (fl_b2 (f_X2_state  σ) fun r8 σ9 => if r8 = 0 then (fl_b2 (f_X1_canReach x1 x2 (-1) σ9) fun r12 σ13 => (if r12 = 0 then (some ((-1000004))) else ((f_X1_distanceTo x2 σ13).bind fun r19 => some (r19))).bind fun (t15 : Int32) => some (t15, σ13)) else (some (r8, σ9))))
def rm_X2_marginal : Room := { frames := 5, cells := 0, slots := 0, locals := 112 }
set_option maxHeartbeats 4000000 in
set_option maxRecDepth 100000 in
theorem c_X2_marginal (l : Launch) (D : va_G) (ad : Nat → Nat) (cz : Nat → ClassId) (x1 : Int32) (x2 : Int32) (σ : fl_St) {r : Int32} {σ' : fl_St} (h : f_X2_marginal x1 x2 σ = some (r, σ')) : gMi l yX2_marginal wsX2_marginal rm_X2_marginal D (wc ad cz) (wcT cz) wcN [.ref (ad 0), .int x1, .int x2] σ r σ' := by
  refine gMi_of (cc := cX2_marginal) (maxL := 4) (by decide) rfl (Nat.le_of_ble_eq_true rfl) ?_
  intro p e s m args below meth c A Q ls hx hb hml hown hts hK hA hg hl hret
  have hown : s.vm.findClass RX2 = some m.cls := hown
  have hl : lv_has ls 4 [(0, .ref (ad 0)), (1, .int x1), (2, .int x2)] := hl
  have k_0 := hts (.constant RX2 29 (-1000000)) (by decide +kernel)
  have k_1 := hts (.fieldLink RX2 12 "FlowLedger" "router" "LFlowLedger$Router;") (by decide +kernel)
  have k_2 := (by decide +kernel : ∀ w ∈ wsX20, w ∈ wsX2_marginal)
  have k_3 := hts (.constant RX2 93 (-1000004)) (by decide +kernel)
  unfold f_X2_marginal at h
  have W0 : ∀ (H : Heap) (locs : List Loc), gS D (wc ad cz) A s.heap σ H locs → W p l e rm_X2_marginal s m args below meth c H locs 0 0 Q (F0 m 0 ls []) := by
    intro H locs hg
    refine lv_iload_n hx hb dX2_marginal_0 rfl (lv_at hl 1 rfl) ?_
    obtain ⟨r2, e1, h⟩ := fl_bnd h
    refine g_callSi (As := [.int x1]) (rest := []) ⟨hx, hb, hml, hown, hts⟩ (c_X2_isNode l D ad cz (x1) (σ) e1) (cwS 1 hts gX2_marginal_X2_isNode rfl rfl rfl (by decide +kernel) ⟨Nat.le_of_ble_eq_true rfl, Nat.le_of_ble_eq_true rfl⟩) hK hA hg rfl hl.1 rfl (Nat.le_of_ble_eq_true rfl) dX2_marginal_1 ⟨Nat.le_of_ble_eq_true rfl, Nat.le_of_ble_eq_true rfl⟩ (fun H locs hg => ?_)
    refine lv_if_eq (tgt := 14) hx hb dX2_marginal_4 (by decide) (fun c3 => ?_) (fun c3 => ?_)
    · have h := fl_ifp c3 h
      refine lv_ldc hx hb hown k_0 dX2_marginal_14 ?_
      exact hret _ _ _ _ _ _ h hg rfl dX2_marginal_16
    · have h := fl_ifn c3 h
      refine lv_iload_n hx hb dX2_marginal_7 rfl (lv_at hl 2 rfl) ?_
      obtain ⟨r5, e4, h⟩ := fl_bnd h
      refine g_callSi (As := [.int x2]) (rest := []) ⟨hx, hb, hml, hown, hts⟩ (c_X2_isNode l D ad cz (x2) (σ) e4) (cwS 1 hts gX2_marginal_X2_isNode rfl rfl rfl (by decide +kernel) ⟨Nat.le_of_ble_eq_true rfl, Nat.le_of_ble_eq_true rfl⟩) hK hA hg rfl hl.1 rfl (Nat.le_of_ble_eq_true rfl) dX2_marginal_8 ⟨Nat.le_of_ble_eq_true rfl, Nat.le_of_ble_eq_true rfl⟩ (fun H locs hg => ?_)
      refine lv_if_ne (tgt := 17) hx hb dX2_marginal_11 (by decide) (fun c6 => ?_) (fun c6 => ?_)
      · have h := fl_ifn c6 h
        refine lv_aload_n hx hb dX2_marginal_17 rfl (lv_at hl 0 rfl) ?_
        obtain ⟨r8, σ9, e7, h⟩ := fl_b2_b h
        refine g_callVi (As := []) (rest := []) ⟨hx, hb, hml, hown, hts⟩ (c_X2_state l D ad cz (σ) e7) (cwV 0 hts gX2_marginal_X2_state rfl rfl rfl (by decide +kernel) ⟨Nat.le_of_ble_eq_true rfl, Nat.le_of_ble_eq_true rfl⟩) (va_recv hK.1 hg.1 (ci := 2) (q0 := 0) rfl rfl) hK hA hg rfl hl.1 rfl (Nat.le_of_ble_eq_true rfl) dX2_marginal_18 ⟨Nat.le_of_ble_eq_true rfl, Nat.le_of_ble_eq_true rfl⟩ (fun H locs hg => ?_)
        refine lv_istore_n (lv' := [(3, .int r8), (0, .ref (ad 0)), (1, .int x1), (2, .int x2)]) hx hb dX2_marginal_21 rfl hl (by decide) rfl (fun ls hl => ?_)
        refine lv_iload_n hx hb dX2_marginal_22 rfl (lv_at hl 0 rfl) ?_
        refine lv_if_eq (tgt := 28) hx hb dX2_marginal_23 (by decide) (fun c10 => ?_) (fun c10 => ?_)
        · have h := fl_ifp c10 h
          refine lv_aload_n hx hb dX2_marginal_28 rfl (lv_at hl 1 rfl) ?_
          refine va_get (D := D) (ci := 2) (v := .ref (ad 2)) (C := RX2) (T := TX2) (N := 2) hx hb hts k_2 hown hK.1 hg.1 0 rfl rfl 0 (by decide) k_1 (fun _ h9 => h9) rfl dX2_marginal_29 ?_
          refine lv_iload_n hx hb dX2_marginal_32 rfl (lv_at hl 2 rfl) ?_
          refine lv_iload_n hx hb dX2_marginal_33 rfl (lv_at hl 3 rfl) ?_
          refine lv_iconst (v := (-1)) hx hb dX2_marginal_34 (by decide) ?_
          obtain ⟨r12, σ13, e11, h⟩ := fl_b2_b h
          refine g_callVi (As := [.int x1, .int x2, .int (-1)]) (rest := []) ⟨hx, hb, hml, hown, hts⟩ (c_X1_canReach l D ad cz (x1) (x2) ((-1)) (σ9) e11) (cwV 3 hts gX2_marginal_X1_canReach rfl rfl rfl (by decide +kernel) ⟨Nat.le_of_ble_eq_true rfl, Nat.le_of_ble_eq_true rfl⟩) (va_recv hK.1 hg.1 (ci := 1) (q0 := 2) rfl rfl) hK hA hg rfl hl.1 rfl (Nat.le_of_ble_eq_true rfl) dX2_marginal_35 ⟨Nat.le_of_ble_eq_true rfl, Nat.le_of_ble_eq_true rfl⟩ (fun H locs hg => ?_)
          obtain ⟨t15, hB17, h⟩ := fl_bnd h
          have J16 : ∀ (H : Heap) (locs : List Loc) (ls : Array Slot), gS D (wc ad cz) A s.heap σ13 H locs → lv_has ls 4 [] → W p l e rm_X2_marginal s m args below meth c H locs 0 0 Q (F0 m 54 ls [.int t15]) := by
            intro H locs ls hg hl
            exact hret _ _ _ _ _ _ h hg rfl dX2_marginal_54
          clear h
          have h := hB17
          refine lv_if_eq (tgt := 52) hx hb dX2_marginal_38 (by decide) (fun c14 => ?_) (fun c14 => ?_)
          · have h := fl_ifp c14 h
            refine lv_ldc hx hb hown k_3 dX2_marginal_52 ?_
            obtain rfl := fl_s1 h
            exact J16 H locs ls hg (lv_sub hl [] rfl)
          · have h := fl_ifn c14 h
            refine lv_aload_n hx hb dX2_marginal_41 rfl (lv_at hl 1 rfl) ?_
            refine va_get (D := D) (ci := 2) (v := .ref (ad 2)) (C := RX2) (T := TX2) (N := 2) hx hb hts k_2 hown hK.1 hg.1 0 rfl rfl 0 (by decide) k_1 (fun _ h9 => h9) rfl dX2_marginal_42 ?_
            refine lv_iload_n hx hb dX2_marginal_45 rfl (lv_at hl 3 rfl) ?_
            obtain ⟨r19, e18, h⟩ := fl_bnd h
            refine g_callVi (As := [.int x2]) (rest := []) ⟨hx, hb, hml, hown, hts⟩ (c_X1_distanceTo l D ad cz (x2) (σ13) e18) (cwV 1 hts gX2_marginal_X1_distanceTo rfl rfl rfl (by decide +kernel) ⟨Nat.le_of_ble_eq_true rfl, Nat.le_of_ble_eq_true rfl⟩) (va_recv hK.1 hg.1 (ci := 1) (q0 := 2) rfl rfl) hK hA hg rfl hl.1 rfl (Nat.le_of_ble_eq_true rfl) dX2_marginal_46 ⟨Nat.le_of_ble_eq_true rfl, Nat.le_of_ble_eq_true rfl⟩ (fun H locs hg => ?_)
            refine lv_goto (tgt := 54) hx hb dX2_marginal_49 (by decide) ?_
            obtain rfl := fl_s1 h
            exact J16 H locs ls hg (lv_sub hl [] rfl)
        · have h := fl_ifn c10 h
          refine lv_iload_n hx hb dX2_marginal_26 rfl (lv_at hl 0 rfl) ?_
          exact hret _ _ _ _ _ _ h hg rfl dX2_marginal_27
      · have h := fl_ifp c6 h
        refine lv_ldc hx hb hown k_0 dX2_marginal_14 ?_
        exact hret _ _ _ _ _ _ h hg rfl dX2_marginal_16
  exact W0 _ _ hg
def f_X2_routeTilted (x1 : Int32) (x2 : Int32) (σ : fl_St) : Option (Int32 × fl_St) := (f_X1_lay (841) σ).bind fun σ2 => (f_X1_tilt x1 x2 σ2).bind fun σ4 => fl_b2 (f_X1_route  σ4) fun r6 σ7 => if ¬ (r6 = 0 ∨ r6 = 1) then none else some (r6, σ7)
def rm_X2_routeTilted : Room := { frames := 4, cells := 0, slots := 0, locals := 92 }
set_option maxHeartbeats 4000000 in
set_option maxRecDepth 100000 in
theorem c_X2_routeTilted (l : Launch) (D : va_G) (ad : Nat → Nat) (cz : Nat → ClassId) (x1 : Int32) (x2 : Int32) (σ : fl_St) {r : Int32} {σ' : fl_St} (h : f_X2_routeTilted x1 x2 σ = some (r, σ')) : gMi l yX2_routeTilted wsX2_routeTilted rm_X2_routeTilted D (wc ad cz) (wcT cz) wcN [.ref (ad 0), .int x1, .int x2] σ r σ' := by
  refine gMi_of (cc := cX2_routeTilted) (maxL := 3) (by decide) rfl (Nat.le_of_ble_eq_true rfl) ?_
  intro p e s m args below meth c A Q ls hx hb hml hown hts hK hA hg hl hret
  have hown : s.vm.findClass RX2 = some m.cls := hown
  have hl : lv_has ls 3 [(0, .ref (ad 0)), (1, .int x1), (2, .int x2)] := hl
  have k_0 := hts (.fieldLink RX2 12 "FlowLedger" "router" "LFlowLedger$Router;") (by decide +kernel)
  have k_1 := (by decide +kernel : ∀ w ∈ wsX20, w ∈ wsX2_routeTilted)
  unfold f_X2_routeTilted at h
  have W0 : ∀ (H : Heap) (locs : List Loc), gS D (wc ad cz) A s.heap σ H locs → W p l e rm_X2_routeTilted s m args below meth c H locs 0 0 Q (F0 m 0 ls []) := by
    intro H locs hg
    refine lv_aload_n hx hb dX2_routeTilted_0 rfl (lv_at hl 0 rfl) ?_
    refine va_get (D := D) (ci := 2) (v := .ref (ad 2)) (C := RX2) (T := TX2) (N := 2) hx hb hts k_1 hown hK.1 hg.1 0 rfl rfl 0 (by decide) k_0 (fun _ h9 => h9) rfl dX2_routeTilted_1 ?_
    refine lv_sipush (v := (841)) hx hb dX2_routeTilted_4 (by decide) ?_
    obtain ⟨σ2, e1, h⟩ := fl_bnd h
    refine g_callVv (As := [.int (841)]) (rest := []) ⟨hx, hb, hml, hown, hts⟩ (c_X1_lay l D ad cz ((841)) (σ) e1) (cwV 1 hts gX2_routeTilted_X1_lay rfl rfl rfl (by decide +kernel) ⟨Nat.le_of_ble_eq_true rfl, Nat.le_of_ble_eq_true rfl⟩) (va_recv hK.1 hg.1 (ci := 1) (q0 := 2) rfl rfl) hK hA hg rfl hl.1 rfl (Nat.le_of_ble_eq_true rfl) dX2_routeTilted_7 ⟨Nat.le_of_ble_eq_true rfl, Nat.le_of_ble_eq_true rfl⟩ (fun H locs hg => ?_)
    refine lv_aload_n hx hb dX2_routeTilted_10 rfl (lv_at hl 0 rfl) ?_
    refine va_get (D := D) (ci := 2) (v := .ref (ad 2)) (C := RX2) (T := TX2) (N := 2) hx hb hts k_1 hown hK.1 hg.1 0 rfl rfl 0 (by decide) k_0 (fun _ h9 => h9) rfl dX2_routeTilted_11 ?_
    refine lv_iload_n hx hb dX2_routeTilted_14 rfl (lv_at hl 1 rfl) ?_
    refine lv_iload_n hx hb dX2_routeTilted_15 rfl (lv_at hl 2 rfl) ?_
    obtain ⟨σ4, e3, h⟩ := fl_bnd h
    refine g_callVv (As := [.int x1, .int x2]) (rest := []) ⟨hx, hb, hml, hown, hts⟩ (c_X1_tilt l D ad cz (x1) (x2) (σ2) e3) (cwV 2 hts gX2_routeTilted_X1_tilt rfl rfl rfl (by decide +kernel) ⟨Nat.le_of_ble_eq_true rfl, Nat.le_of_ble_eq_true rfl⟩) (va_recv hK.1 hg.1 (ci := 1) (q0 := 2) rfl rfl) hK hA hg rfl hl.1 rfl (Nat.le_of_ble_eq_true rfl) dX2_routeTilted_16 ⟨Nat.le_of_ble_eq_true rfl, Nat.le_of_ble_eq_true rfl⟩ (fun H locs hg => ?_)
    refine lv_aload_n hx hb dX2_routeTilted_19 rfl (lv_at hl 0 rfl) ?_
    refine va_get (D := D) (ci := 2) (v := .ref (ad 2)) (C := RX2) (T := TX2) (N := 2) hx hb hts k_1 hown hK.1 hg.1 0 rfl rfl 0 (by decide) k_0 (fun _ h9 => h9) rfl dX2_routeTilted_20 ?_
    obtain ⟨r6, σ7, e5, h⟩ := fl_b2_b h
    refine g_callVi (As := []) (rest := []) ⟨hx, hb, hml, hown, hts⟩ (c_X1_route l D ad cz (σ4) e5) (cwV 0 hts gX2_routeTilted_X1_route rfl rfl rfl (by decide +kernel) ⟨Nat.le_of_ble_eq_true rfl, Nat.le_of_ble_eq_true rfl⟩) (va_recv hK.1 hg.1 (ci := 1) (q0 := 2) rfl rfl) hK hA hg rfl hl.1 rfl (Nat.le_of_ble_eq_true rfl) dX2_routeTilted_23 ⟨Nat.le_of_ble_eq_true rfl, Nat.le_of_ble_eq_true rfl⟩ (fun H locs hg => ?_)
    obtain ⟨z8, h⟩ := fl_bool h
    exact hret _ _ _ _ _ _ h hg (fl_nar2 z8) dX2_routeTilted_26
  exact W0 _ _ hg
def f_X2_least (x1 : Int32) (σ : fl_St) : Option (Int32 × fl_St) := (f_X2_isArc x1 σ).bind fun r2 => if r2 = 0 then (some ((-1000000), σ)) else (fl_b2 (f_X2_state  σ) fun r5 σ6 => if r5 = 0 then (fl_b2 (f_X2_routeTilted x1 (1) σ6) fun r9 σ10 => (f_X1_flowOf x1 σ10).bind fun r12 => some (r12, σ10)) else (some (r5, σ6)))
def rm_X2_least : Room := { frames := 5, cells := 0, slots := 0, locals := 114 }
set_option maxHeartbeats 4000000 in
set_option maxRecDepth 100000 in
theorem c_X2_least (l : Launch) (D : va_G) (ad : Nat → Nat) (cz : Nat → ClassId) (x1 : Int32) (σ : fl_St) {r : Int32} {σ' : fl_St} (h : f_X2_least x1 σ = some (r, σ')) : gMi l yX2_least wsX2_least rm_X2_least D (wc ad cz) (wcT cz) wcN [.ref (ad 0), .int x1] σ r σ' := by
  refine gMi_of (cc := cX2_least) (maxL := 3) (by decide) rfl (Nat.le_of_ble_eq_true rfl) ?_
  intro p e s m args below meth c A Q ls hx hb hml hown hts hK hA hg hl hret
  have hown : s.vm.findClass RX2 = some m.cls := hown
  have hl : lv_has ls 3 [(0, .ref (ad 0)), (1, .int x1)] := hl
  have k_0 := hts (.fieldLink RX2 12 "FlowLedger" "router" "LFlowLedger$Router;") (by decide +kernel)
  have k_1 := (by decide +kernel : ∀ w ∈ wsX20, w ∈ wsX2_least)
  have k_2 := hts (.constant RX2 29 (-1000000)) (by decide +kernel)
  unfold f_X2_least at h
  have W0 : ∀ (H : Heap) (locs : List Loc), gS D (wc ad cz) A s.heap σ H locs → W p l e rm_X2_least s m args below meth c H locs 0 0 Q (F0 m 0 ls []) := by
    intro H locs hg
    refine lv_aload_n hx hb dX2_least_0 rfl (lv_at hl 0 rfl) ?_
    refine lv_iload_n hx hb dX2_least_1 rfl (lv_at hl 1 rfl) ?_
    obtain ⟨r2, e1, h⟩ := fl_bnd h
    refine g_callVi (As := [.int x1]) (rest := []) ⟨hx, hb, hml, hown, hts⟩ (c_X2_isArc l D ad cz (x1) (σ) e1) (cwV 1 hts gX2_least_X2_isArc rfl rfl rfl (by decide +kernel) ⟨Nat.le_of_ble_eq_true rfl, Nat.le_of_ble_eq_true rfl⟩) (va_recv hK.1 hg.1 (ci := 2) (q0 := 0) rfl rfl) hK hA hg rfl hl.1 rfl (Nat.le_of_ble_eq_true rfl) dX2_least_2 ⟨Nat.le_of_ble_eq_true rfl, Nat.le_of_ble_eq_true rfl⟩ (fun H locs hg => ?_)
    refine lv_if_ne (tgt := 11) hx hb dX2_least_5 (by decide) (fun c3 => ?_) (fun c3 => ?_)
    · have h := fl_ifn c3 h
      refine lv_aload_n hx hb dX2_least_11 rfl (lv_at hl 0 rfl) ?_
      obtain ⟨r5, σ6, e4, h⟩ := fl_b2_b h
      refine g_callVi (As := []) (rest := []) ⟨hx, hb, hml, hown, hts⟩ (c_X2_state l D ad cz (σ) e4) (cwV 0 hts gX2_least_X2_state rfl rfl rfl (by decide +kernel) ⟨Nat.le_of_ble_eq_true rfl, Nat.le_of_ble_eq_true rfl⟩) (va_recv hK.1 hg.1 (ci := 2) (q0 := 0) rfl rfl) hK hA hg rfl hl.1 rfl (Nat.le_of_ble_eq_true rfl) dX2_least_12 ⟨Nat.le_of_ble_eq_true rfl, Nat.le_of_ble_eq_true rfl⟩ (fun H locs hg => ?_)
      refine lv_istore_n (lv' := [(2, .int r5), (0, .ref (ad 0)), (1, .int x1)]) hx hb dX2_least_15 rfl hl (by decide) rfl (fun ls hl => ?_)
      refine lv_iload_n hx hb dX2_least_16 rfl (lv_at hl 0 rfl) ?_
      refine lv_if_eq (tgt := 22) hx hb dX2_least_17 (by decide) (fun c7 => ?_) (fun c7 => ?_)
      · have h := fl_ifp c7 h
        refine lv_aload_n hx hb dX2_least_22 rfl (lv_at hl 1 rfl) ?_
        refine lv_iload_n hx hb dX2_least_23 rfl (lv_at hl 2 rfl) ?_
        refine lv_iconst (v := (1)) hx hb dX2_least_24 (by decide) ?_
        obtain ⟨r9, σ10, e8, h⟩ := fl_b2_b h
        refine g_callVi (As := [.int x1, .int (1)]) (rest := []) ⟨hx, hb, hml, hown, hts⟩ (c_X2_routeTilted l D ad cz (x1) ((1)) (σ6) e8) (cwV 2 hts gX2_least_X2_routeTilted rfl rfl rfl (by decide +kernel) ⟨Nat.le_of_ble_eq_true rfl, Nat.le_of_ble_eq_true rfl⟩) (va_recv hK.1 hg.1 (ci := 2) (q0 := 0) rfl rfl) hK hA hg rfl hl.1 rfl (Nat.le_of_ble_eq_true rfl) dX2_least_25 ⟨Nat.le_of_ble_eq_true rfl, Nat.le_of_ble_eq_true rfl⟩ (fun H locs hg => ?_)
        refine lv_pop hx hb dX2_least_28 rfl ?_
        refine lv_aload_n hx hb dX2_least_29 rfl (lv_at hl 1 rfl) ?_
        refine va_get (D := D) (ci := 2) (v := .ref (ad 2)) (C := RX2) (T := TX2) (N := 2) hx hb hts k_1 hown hK.1 hg.1 0 rfl rfl 0 (by decide) k_0 (fun _ h9 => h9) rfl dX2_least_30 ?_
        refine lv_iload_n hx hb dX2_least_33 rfl (lv_at hl 2 rfl) ?_
        obtain ⟨r12, e11, h⟩ := fl_bnd h
        refine g_callVi (As := [.int x1]) (rest := []) ⟨hx, hb, hml, hown, hts⟩ (c_X1_flowOf l D ad cz (x1) (σ10) e11) (cwV 1 hts gX2_least_X1_flowOf rfl rfl rfl (by decide +kernel) ⟨Nat.le_of_ble_eq_true rfl, Nat.le_of_ble_eq_true rfl⟩) (va_recv hK.1 hg.1 (ci := 1) (q0 := 2) rfl rfl) hK hA hg rfl hl.1 rfl (Nat.le_of_ble_eq_true rfl) dX2_least_34 ⟨Nat.le_of_ble_eq_true rfl, Nat.le_of_ble_eq_true rfl⟩ (fun H locs hg => ?_)
        exact hret _ _ _ _ _ _ h hg rfl dX2_least_37
      · have h := fl_ifn c7 h
        refine lv_iload_n hx hb dX2_least_20 rfl (lv_at hl 0 rfl) ?_
        exact hret _ _ _ _ _ _ h hg rfl dX2_least_21
    · have h := fl_ifp c3 h
      refine lv_ldc hx hb hown k_2 dX2_least_8 ?_
      exact hret _ _ _ _ _ _ h hg rfl dX2_least_10
  exact W0 _ _ hg
def f_X2_most (x1 : Int32) (σ : fl_St) : Option (Int32 × fl_St) := (f_X2_isArc x1 σ).bind fun r2 => if r2 = 0 then (some ((-1000000), σ)) else (fl_b2 (f_X2_state  σ) fun r5 σ6 => if r5 = 0 then (fl_b2 (f_X2_routeTilted x1 (-1) σ6) fun r9 σ10 => (if r9 = 0 then (some ((-1000004))) else ((f_X1_flowOf x1 σ10).bind fun r16 => some (r16))).bind fun (t12 : Int32) => some (t12, σ10)) else (some (r5, σ6)))
def rm_X2_most : Room := { frames := 5, cells := 0, slots := 0, locals := 114 }
set_option maxHeartbeats 4000000 in
set_option maxRecDepth 100000 in
theorem c_X2_most (l : Launch) (D : va_G) (ad : Nat → Nat) (cz : Nat → ClassId) (x1 : Int32) (σ : fl_St) {r : Int32} {σ' : fl_St} (h : f_X2_most x1 σ = some (r, σ')) : gMi l yX2_most wsX2_most rm_X2_most D (wc ad cz) (wcT cz) wcN [.ref (ad 0), .int x1] σ r σ' := by
  refine gMi_of (cc := cX2_most) (maxL := 3) (by decide) rfl (Nat.le_of_ble_eq_true rfl) ?_
  intro p e s m args below meth c A Q ls hx hb hml hown hts hK hA hg hl hret
  have hown : s.vm.findClass RX2 = some m.cls := hown
  have hl : lv_has ls 3 [(0, .ref (ad 0)), (1, .int x1)] := hl
  have k_0 := hts (.constant RX2 93 (-1000004)) (by decide +kernel)
  have k_1 := hts (.fieldLink RX2 12 "FlowLedger" "router" "LFlowLedger$Router;") (by decide +kernel)
  have k_2 := (by decide +kernel : ∀ w ∈ wsX20, w ∈ wsX2_most)
  have k_3 := hts (.constant RX2 29 (-1000000)) (by decide +kernel)
  unfold f_X2_most at h
  have W0 : ∀ (H : Heap) (locs : List Loc), gS D (wc ad cz) A s.heap σ H locs → W p l e rm_X2_most s m args below meth c H locs 0 0 Q (F0 m 0 ls []) := by
    intro H locs hg
    refine lv_aload_n hx hb dX2_most_0 rfl (lv_at hl 0 rfl) ?_
    refine lv_iload_n hx hb dX2_most_1 rfl (lv_at hl 1 rfl) ?_
    obtain ⟨r2, e1, h⟩ := fl_bnd h
    refine g_callVi (As := [.int x1]) (rest := []) ⟨hx, hb, hml, hown, hts⟩ (c_X2_isArc l D ad cz (x1) (σ) e1) (cwV 1 hts gX2_most_X2_isArc rfl rfl rfl (by decide +kernel) ⟨Nat.le_of_ble_eq_true rfl, Nat.le_of_ble_eq_true rfl⟩) (va_recv hK.1 hg.1 (ci := 2) (q0 := 0) rfl rfl) hK hA hg rfl hl.1 rfl (Nat.le_of_ble_eq_true rfl) dX2_most_2 ⟨Nat.le_of_ble_eq_true rfl, Nat.le_of_ble_eq_true rfl⟩ (fun H locs hg => ?_)
    refine lv_if_ne (tgt := 11) hx hb dX2_most_5 (by decide) (fun c3 => ?_) (fun c3 => ?_)
    · have h := fl_ifn c3 h
      refine lv_aload_n hx hb dX2_most_11 rfl (lv_at hl 0 rfl) ?_
      obtain ⟨r5, σ6, e4, h⟩ := fl_b2_b h
      refine g_callVi (As := []) (rest := []) ⟨hx, hb, hml, hown, hts⟩ (c_X2_state l D ad cz (σ) e4) (cwV 0 hts gX2_most_X2_state rfl rfl rfl (by decide +kernel) ⟨Nat.le_of_ble_eq_true rfl, Nat.le_of_ble_eq_true rfl⟩) (va_recv hK.1 hg.1 (ci := 2) (q0 := 0) rfl rfl) hK hA hg rfl hl.1 rfl (Nat.le_of_ble_eq_true rfl) dX2_most_12 ⟨Nat.le_of_ble_eq_true rfl, Nat.le_of_ble_eq_true rfl⟩ (fun H locs hg => ?_)
      refine lv_istore_n (lv' := [(2, .int r5), (0, .ref (ad 0)), (1, .int x1)]) hx hb dX2_most_15 rfl hl (by decide) rfl (fun ls hl => ?_)
      refine lv_iload_n hx hb dX2_most_16 rfl (lv_at hl 0 rfl) ?_
      refine lv_if_eq (tgt := 22) hx hb dX2_most_17 (by decide) (fun c7 => ?_) (fun c7 => ?_)
      · have h := fl_ifp c7 h
        refine lv_aload_n hx hb dX2_most_22 rfl (lv_at hl 1 rfl) ?_
        refine lv_iload_n hx hb dX2_most_23 rfl (lv_at hl 2 rfl) ?_
        refine lv_iconst (v := (-1)) hx hb dX2_most_24 (by decide) ?_
        obtain ⟨r9, σ10, e8, h⟩ := fl_b2_b h
        refine g_callVi (As := [.int x1, .int (-1)]) (rest := []) ⟨hx, hb, hml, hown, hts⟩ (c_X2_routeTilted l D ad cz (x1) ((-1)) (σ6) e8) (cwV 2 hts gX2_most_X2_routeTilted rfl rfl rfl (by decide +kernel) ⟨Nat.le_of_ble_eq_true rfl, Nat.le_of_ble_eq_true rfl⟩) (va_recv hK.1 hg.1 (ci := 2) (q0 := 0) rfl rfl) hK hA hg rfl hl.1 rfl (Nat.le_of_ble_eq_true rfl) dX2_most_25 ⟨Nat.le_of_ble_eq_true rfl, Nat.le_of_ble_eq_true rfl⟩ (fun H locs hg => ?_)
        obtain ⟨t12, hB14, h⟩ := fl_bnd h
        have J13 : ∀ (H : Heap) (locs : List Loc) (ls : Array Slot), gS D (wc ad cz) A s.heap σ10 H locs → lv_has ls 3 [] → W p l e rm_X2_most s m args below meth c H locs 0 0 Q (F0 m 44 ls [.int t12]) := by
          intro H locs ls hg hl
          exact hret _ _ _ _ _ _ h hg rfl dX2_most_44
        clear h
        have h := hB14
        refine lv_if_eq (tgt := 42) hx hb dX2_most_28 (by decide) (fun c11 => ?_) (fun c11 => ?_)
        · have h := fl_ifp c11 h
          refine lv_ldc hx hb hown k_0 dX2_most_42 ?_
          obtain rfl := fl_s1 h
          exact J13 H locs ls hg (lv_sub hl [] rfl)
        · have h := fl_ifn c11 h
          refine lv_aload_n hx hb dX2_most_31 rfl (lv_at hl 1 rfl) ?_
          refine va_get (D := D) (ci := 2) (v := .ref (ad 2)) (C := RX2) (T := TX2) (N := 2) hx hb hts k_2 hown hK.1 hg.1 0 rfl rfl 0 (by decide) k_1 (fun _ h9 => h9) rfl dX2_most_32 ?_
          refine lv_iload_n hx hb dX2_most_35 rfl (lv_at hl 2 rfl) ?_
          obtain ⟨r16, e15, h⟩ := fl_bnd h
          refine g_callVi (As := [.int x1]) (rest := []) ⟨hx, hb, hml, hown, hts⟩ (c_X1_flowOf l D ad cz (x1) (σ10) e15) (cwV 1 hts gX2_most_X1_flowOf rfl rfl rfl (by decide +kernel) ⟨Nat.le_of_ble_eq_true rfl, Nat.le_of_ble_eq_true rfl⟩) (va_recv hK.1 hg.1 (ci := 1) (q0 := 2) rfl rfl) hK hA hg rfl hl.1 rfl (Nat.le_of_ble_eq_true rfl) dX2_most_36 ⟨Nat.le_of_ble_eq_true rfl, Nat.le_of_ble_eq_true rfl⟩ (fun H locs hg => ?_)
          refine lv_goto (tgt := 44) hx hb dX2_most_39 (by decide) ?_
          obtain rfl := fl_s1 h
          exact J13 H locs ls hg (lv_sub hl [] rfl)
      · have h := fl_ifn c7 h
        refine lv_iload_n hx hb dX2_most_20 rfl (lv_at hl 0 rfl) ?_
        exact hret _ _ _ _ _ _ h hg rfl dX2_most_21
    · have h := fl_ifp c3 h
      refine lv_ldc hx hb hown k_3 dX2_most_8 ?_
      exact hret _ _ _ _ _ _ h hg rfl dX2_most_10
  exact W0 _ _ hg
def f_X2_slack (x1 : Int32) (σ : fl_St) : Option (Int32 × fl_St) := fl_b2 (f_X2_most x1 σ) fun r2 σ3 => if r2 = (-1000004) then (some ((0), σ3)) else (if 0 ≤ r2 then ((fl_rd σ3 2 20 x1).bind fun v6 => if r2 = v6 then (some ((40), σ3)) else ((f_X1_lay (1) σ3).bind fun σ11 => (fl_rd σ11 1 20 x1).bind fun v12 => (fl_rd σ11 0 20 x1).bind fun v15 => fl_b2 (f_X1_canReach v12 v15 x1 σ11) fun r19 σ20 => if r19 = 0 then (some ((40), σ20)) else ((fl_rd σ20 3 20 x1).bind fun v22 => (fl_rd σ20 0 20 x1).bind fun v25 => (f_X1_distanceTo v25 σ20).bind fun r29 => some ((if (v22 + r29) < (40) then (v22 + r29) else (40)), σ20)))) else (some (r2, σ3)))
def rm_X2_slack : Room := { frames := 6, cells := 0, slots := 0, locals := 136 }
set_option maxHeartbeats 4000000 in
set_option maxRecDepth 100000 in
theorem c_X2_slack (l : Launch) (D : va_G) (ad : Nat → Nat) (cz : Nat → ClassId) (x1 : Int32) (σ : fl_St) {r : Int32} {σ' : fl_St} (h : f_X2_slack x1 σ = some (r, σ')) : gMi l yX2_slack wsX2_slack rm_X2_slack D (wc ad cz) (wcT cz) wcN [.ref (ad 0), .int x1] σ r σ' := by
  refine gMi_of (cc := cX2_slack) (maxL := 4) (by decide) rfl (Nat.le_of_ble_eq_true rfl) ?_
  intro p e s m args below meth c A Q ls hx hb hml hown hts hK hA hg hl hret
  have hown : s.vm.findClass RX2 = some m.cls := hown
  have hl : lv_has ls 4 [(0, .ref (ad 0)), (1, .int x1)] := hl
  have k_0 := hts (.constant RX2 93 (-1000004)) (by decide +kernel)
  have k_1 := hts (.fieldLink RX2 20 "FlowLedger" "network" "LFlowLedger$Network;") (by decide +kernel)
  have k_2 := (by decide +kernel : ∀ w ∈ wsX20, w ∈ wsX2_slack)
  have k_3 := hts (.fieldLink RX2 44 "FlowLedger$Network" "capacity" "[I") (by decide +kernel)
  have k_4 := (by decide +kernel : ∀ w ∈ wsX00, w ∈ wsX2_slack)
  have k_5 := hts (.fieldLink RX2 12 "FlowLedger" "router" "LFlowLedger$Router;") (by decide +kernel)
  have k_6 := hts (.fieldLink RX2 41 "FlowLedger$Network" "to" "[I") (by decide +kernel)
  have k_7 := hts (.fieldLink RX2 37 "FlowLedger$Network" "from" "[I") (by decide +kernel)
  have k_8 := hts (.fieldLink RX2 47 "FlowLedger$Network" "cost" "[I") (by decide +kernel)
  have k_9 := hts (.methodLink RX2 103 Lib.Math.min.name) (by decide +kernel)
  have k_10 := hts (.static Lib.Math.min.name) (by decide +kernel)
  have k_11 := hts (.initialized "java/lang/Math") (by decide +kernel)
  have k_12 := hts (.code Lib.Math.min.name Lib.Math.min.code 2 (some .int)) (by decide +kernel)
  unfold f_X2_slack at h
  have W0 : ∀ (H : Heap) (locs : List Loc), gS D (wc ad cz) A s.heap σ H locs → W p l e rm_X2_slack s m args below meth c H locs 0 0 Q (F0 m 0 ls []) := by
    intro H locs hg
    refine lv_aload_n hx hb dX2_slack_0 rfl (lv_at hl 0 rfl) ?_
    refine lv_iload_n hx hb dX2_slack_1 rfl (lv_at hl 1 rfl) ?_
    obtain ⟨r2, σ3, e1, h⟩ := fl_b2_b h
    refine g_callVi (As := [.int x1]) (rest := []) ⟨hx, hb, hml, hown, hts⟩ (c_X2_most l D ad cz (x1) (σ) e1) (cwV 1 hts gX2_slack_X2_most rfl rfl rfl (by decide +kernel) ⟨Nat.le_of_ble_eq_true rfl, Nat.le_of_ble_eq_true rfl⟩) (va_recv hK.1 hg.1 (ci := 2) (q0 := 0) rfl rfl) hK hA hg rfl hl.1 rfl (Nat.le_of_ble_eq_true rfl) dX2_slack_2 ⟨Nat.le_of_ble_eq_true rfl, Nat.le_of_ble_eq_true rfl⟩ (fun H locs hg => ?_)
    refine lv_istore_n (lv' := [(2, .int r2), (0, .ref (ad 0)), (1, .int x1)]) hx hb dX2_slack_5 rfl hl (by decide) rfl (fun ls hl => ?_)
    refine lv_iload_n hx hb dX2_slack_6 rfl (lv_at hl 0 rfl) ?_
    refine lv_ldc hx hb hown k_0 dX2_slack_7 ?_
    refine lv_icmp_ne (tgt := 14) hx hb dX2_slack_9 (by decide) (fun c4 => ?_) (fun c4 => ?_)
    · have h := fl_ifn c4 h
      refine lv_iload_n hx hb dX2_slack_14 rfl (lv_at hl 0 rfl) ?_
      refine lv_if_ge (tgt := 20) hx hb dX2_slack_15 (by decide) (fun c5 => ?_) (fun c5 => ?_)
      · have h := fl_ifp c5 h
        refine lv_iload_n hx hb dX2_slack_20 rfl (lv_at hl 0 rfl) ?_
        refine lv_aload_n hx hb dX2_slack_21 rfl (lv_at hl 1 rfl) ?_
        refine va_get (D := D) (ci := 2) (v := .ref (ad 1)) (C := RX2) (T := TX2) (N := 2) hx hb hts k_2 hown hK.1 hg.1 0 rfl rfl 1 (by decide) k_1 (fun _ h9 => h9) rfl dX2_slack_22 ?_
        refine va_get (D := D) (ci := 0) (v := .ref (ad 5)) (C := RX0) (T := TX0) (N := 6) hx hb hts k_4 hown hK.1 hg.1 1 rfl rfl 2 (by decide) k_3 (fun _ h9 => h9) rfl dX2_slack_25 ?_
        refine lv_iload_n hx hb dX2_slack_28 rfl (lv_at hl 2 rfl) ?_
        obtain ⟨v6, i7, e8, h⟩ := fl_rd_b h
        refine g_ld (n := 20) (t0 := 2) hx hb hK hg (wc_a2 ad cz _) rfl i7 e8 dX2_slack_29 ?_
        refine lv_icmp_ne (tgt := 36) hx hb dX2_slack_30 (by decide) (fun c9 => ?_) (fun c9 => ?_)
        · have h := fl_ifn c9 h
          refine lv_aload_n hx hb dX2_slack_36 rfl (lv_at hl 1 rfl) ?_
          refine va_get (D := D) (ci := 2) (v := .ref (ad 2)) (C := RX2) (T := TX2) (N := 2) hx hb hts k_2 hown hK.1 hg.1 0 rfl rfl 0 (by decide) k_5 (fun _ h9 => h9) rfl dX2_slack_37 ?_
          refine lv_iconst (v := (1)) hx hb dX2_slack_40 (by decide) ?_
          obtain ⟨σ11, e10, h⟩ := fl_bnd h
          refine g_callVv (As := [.int (1)]) (rest := []) ⟨hx, hb, hml, hown, hts⟩ (c_X1_lay l D ad cz ((1)) (σ3) e10) (cwV 1 hts gX2_slack_X1_lay rfl rfl rfl (by decide +kernel) ⟨Nat.le_of_ble_eq_true rfl, Nat.le_of_ble_eq_true rfl⟩) (va_recv hK.1 hg.1 (ci := 1) (q0 := 2) rfl rfl) hK hA hg rfl hl.1 rfl (Nat.le_of_ble_eq_true rfl) dX2_slack_41 ⟨Nat.le_of_ble_eq_true rfl, Nat.le_of_ble_eq_true rfl⟩ (fun H locs hg => ?_)
          refine lv_aload_n hx hb dX2_slack_44 rfl (lv_at hl 1 rfl) ?_
          refine va_get (D := D) (ci := 2) (v := .ref (ad 2)) (C := RX2) (T := TX2) (N := 2) hx hb hts k_2 hown hK.1 hg.1 0 rfl rfl 0 (by decide) k_5 (fun _ h9 => h9) rfl dX2_slack_45 ?_
          refine lv_aload_n hx hb dX2_slack_48 rfl (lv_at hl 1 rfl) ?_
          refine va_get (D := D) (ci := 2) (v := .ref (ad 1)) (C := RX2) (T := TX2) (N := 2) hx hb hts k_2 hown hK.1 hg.1 0 rfl rfl 1 (by decide) k_1 (fun _ h9 => h9) rfl dX2_slack_49 ?_
          refine va_get (D := D) (ci := 0) (v := .ref (ad 4)) (C := RX0) (T := TX0) (N := 6) hx hb hts k_4 hown hK.1 hg.1 1 rfl rfl 1 (by decide) k_6 (fun _ h9 => h9) rfl dX2_slack_52 ?_
          refine lv_iload_n hx hb dX2_slack_55 rfl (lv_at hl 2 rfl) ?_
          obtain ⟨v12, i13, e14, h⟩ := fl_rd_b h
          refine g_ld (n := 20) (t0 := 1) hx hb hK hg (wc_a1 ad cz _) rfl i13 e14 dX2_slack_56 ?_
          refine lv_aload_n hx hb dX2_slack_57 rfl (lv_at hl 1 rfl) ?_
          refine va_get (D := D) (ci := 2) (v := .ref (ad 1)) (C := RX2) (T := TX2) (N := 2) hx hb hts k_2 hown hK.1 hg.1 0 rfl rfl 1 (by decide) k_1 (fun _ h9 => h9) rfl dX2_slack_58 ?_
          refine va_get (D := D) (ci := 0) (v := .ref (ad 3)) (C := RX0) (T := TX0) (N := 6) hx hb hts k_4 hown hK.1 hg.1 1 rfl rfl 0 (by decide) k_7 (fun _ h9 => h9) rfl dX2_slack_61 ?_
          refine lv_iload_n hx hb dX2_slack_64 rfl (lv_at hl 2 rfl) ?_
          obtain ⟨v15, i16, e17, h⟩ := fl_rd_b h
          refine g_ld (n := 20) (t0 := 0) hx hb hK hg (wc_a0 ad cz _) rfl i16 e17 dX2_slack_65 ?_
          refine lv_iload_n hx hb dX2_slack_66 rfl (lv_at hl 2 rfl) ?_
          obtain ⟨r19, σ20, e18, h⟩ := fl_b2_b h
          refine g_callVi (As := [.int v12, .int v15, .int x1]) (rest := []) ⟨hx, hb, hml, hown, hts⟩ (c_X1_canReach l D ad cz (v12) (v15) (x1) (σ11) e18) (cwV 3 hts gX2_slack_X1_canReach rfl rfl rfl (by decide +kernel) ⟨Nat.le_of_ble_eq_true rfl, Nat.le_of_ble_eq_true rfl⟩) (va_recv hK.1 hg.1 (ci := 1) (q0 := 2) rfl rfl) hK hA hg rfl hl.1 rfl (Nat.le_of_ble_eq_true rfl) dX2_slack_67 ⟨Nat.le_of_ble_eq_true rfl, Nat.le_of_ble_eq_true rfl⟩ (fun H locs hg => ?_)
          refine lv_if_ne (tgt := 76) hx hb dX2_slack_70 (by decide) (fun c21 => ?_) (fun c21 => ?_)
          · have h := fl_ifn c21 h
            refine lv_aload_n hx hb dX2_slack_76 rfl (lv_at hl 1 rfl) ?_
            refine va_get (D := D) (ci := 2) (v := .ref (ad 1)) (C := RX2) (T := TX2) (N := 2) hx hb hts k_2 hown hK.1 hg.1 0 rfl rfl 1 (by decide) k_1 (fun _ h9 => h9) rfl dX2_slack_77 ?_
            refine va_get (D := D) (ci := 0) (v := .ref (ad 6)) (C := RX0) (T := TX0) (N := 6) hx hb hts k_4 hown hK.1 hg.1 1 rfl rfl 3 (by decide) k_8 (fun _ h9 => h9) rfl dX2_slack_80 ?_
            refine lv_iload_n hx hb dX2_slack_83 rfl (lv_at hl 2 rfl) ?_
            obtain ⟨v22, i23, e24, h⟩ := fl_rd_b h
            refine g_ld (n := 20) (t0 := 3) hx hb hK hg (wc_a3 ad cz _) rfl i23 e24 dX2_slack_84 ?_
            refine lv_aload_n hx hb dX2_slack_85 rfl (lv_at hl 1 rfl) ?_
            refine va_get (D := D) (ci := 2) (v := .ref (ad 2)) (C := RX2) (T := TX2) (N := 2) hx hb hts k_2 hown hK.1 hg.1 0 rfl rfl 0 (by decide) k_5 (fun _ h9 => h9) rfl dX2_slack_86 ?_
            refine lv_aload_n hx hb dX2_slack_89 rfl (lv_at hl 1 rfl) ?_
            refine va_get (D := D) (ci := 2) (v := .ref (ad 1)) (C := RX2) (T := TX2) (N := 2) hx hb hts k_2 hown hK.1 hg.1 0 rfl rfl 1 (by decide) k_1 (fun _ h9 => h9) rfl dX2_slack_90 ?_
            refine va_get (D := D) (ci := 0) (v := .ref (ad 3)) (C := RX0) (T := TX0) (N := 6) hx hb hts k_4 hown hK.1 hg.1 1 rfl rfl 0 (by decide) k_7 (fun _ h9 => h9) rfl dX2_slack_93 ?_
            refine lv_iload_n hx hb dX2_slack_96 rfl (lv_at hl 2 rfl) ?_
            obtain ⟨v25, i26, e27, h⟩ := fl_rd_b h
            refine g_ld (n := 20) (t0 := 0) hx hb hK hg (wc_a0 ad cz _) rfl i26 e27 dX2_slack_97 ?_
            obtain ⟨r29, e28, h⟩ := fl_bnd h
            refine g_callVi (As := [.int v25]) (rest := [.int v22]) ⟨hx, hb, hml, hown, hts⟩ (c_X1_distanceTo l D ad cz (v25) (σ20) e28) (cwV 1 hts gX2_slack_X1_distanceTo rfl rfl rfl (by decide +kernel) ⟨Nat.le_of_ble_eq_true rfl, Nat.le_of_ble_eq_true rfl⟩) (va_recv hK.1 hg.1 (ci := 1) (q0 := 2) rfl rfl) hK hA hg rfl hl.1 rfl (Nat.le_of_ble_eq_true rfl) dX2_slack_98 ⟨Nat.le_of_ble_eq_true rfl, Nat.le_of_ble_eq_true rfl⟩ (fun H locs hg => ?_)
            refine lv_iadd hx hb dX2_slack_101 ?_
            refine lv_istore_n (lv' := [(3, .int (v22 + r29)), (2, .int r2), (0, .ref (ad 0)), (1, .int x1)]) hx hb dX2_slack_102 rfl hl (by decide) rfl (fun ls hl => ?_)
            refine lv_bipush (v := (40)) hx hb dX2_slack_103 (by decide) ?_
            refine lv_iload_n hx hb dX2_slack_105 rfl (lv_at hl 0 rfl) ?_
            refine va_mmin (rest := []) hx hb (hml.trans hl.1.symm) hown k_9 k_10 k_11 k_12 (Nat.le_of_ble_eq_true rfl) (Nat.le_of_ble_eq_true rfl) (Nat.le_of_ble_eq_true rfl) (Nat.le_of_ble_eq_true rfl) dX2_slack_106 ?_
            exact hret _ _ _ _ _ _ h hg rfl dX2_slack_109
          · have h := fl_ifp c21 h
            refine lv_bipush (v := (40)) hx hb dX2_slack_73 (by decide) ?_
            exact hret _ _ _ _ _ _ h hg rfl dX2_slack_75
        · have h := fl_ifp c9 h
          refine lv_bipush (v := (40)) hx hb dX2_slack_33 (by decide) ?_
          exact hret _ _ _ _ _ _ h hg rfl dX2_slack_35
      · have h := fl_ifn c5 h
        refine lv_iload_n hx hb dX2_slack_18 rfl (lv_at hl 0 rfl) ?_
        exact hret _ _ _ _ _ _ h hg rfl dX2_slack_19
    · have h := fl_ifp c4 h
      refine lv_iconst (v := (0)) hx hb dX2_slack_12 (by decide) ?_
      exact hret _ _ _ _ _ _ h hg rfl dX2_slack_13
  exact W0 _ _ hg
