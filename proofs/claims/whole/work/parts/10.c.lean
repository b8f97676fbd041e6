def f_X2_sumAboveZero_l10 (fi : Nat) (x3 : Int32) (σ : fl_St) : Nat → Int32 → Int32 → Option (Int32)
  | 0, _, _ => none
  | n + 1, x1, x4 => if x3 ≤ x4 then (some (x1)) else ((fl_rd σ fi 8 x4).bind fun v2 => f_X2_sumAboveZero_l10 fi x3 σ n (x1 + (if (0) < v2 then v2 else (0))) (x4 + 1))
def f_X2_sumAboveZero (fi : Nat) (σ : fl_St) : Option (Int32) := (f_X2_sumAboveZero_l10 fi (8) σ fl_N (0) (0)).bind fun (w5 : Int32) => some w5
def rm_X2_sumAboveZero : Room := { frames := 1, cells := 0, slots := 0, locals := 21 }
set_option maxHeartbeats 4000000 in
set_option maxRecDepth 100000 in
theorem c_X2_sumAboveZero (l : Launch) (D : va_G) (ad : Nat → Nat) (cz : Nat → ClassId) {fi : Nat} (hfi : fi = 4 ∨ fi = 9) (σ : fl_St) {r : Int32} (h : f_X2_sumAboveZero fi σ = some r) : gMi l yX2_sumAboveZero wsX2_sumAboveZero rm_X2_sumAboveZero D (wc ad cz) (wcT cz) wcN [.ref (ad (fi + 3))] σ r σ := by
  refine gMi_of (cc := cX2_sumAboveZero) (maxL := 6) (by decide) rfl (Nat.le_of_ble_eq_true rfl) ?_
  intro p e s m args below meth c A Q ls hx hb hml hown hts hK hA hg hl hret
  have hown : s.vm.findClass RX2 = some m.cls := hown
  have hl : lv_has ls 6 [(0, .ref (ad (fi + 3)))] := hl
  have k_0 := hts (.methodLink RX2 111 Lib.Math.max.name) (by decide +kernel)
  have k_1 := hts (.static Lib.Math.max.name) (by decide +kernel)
  have k_2 := hts (.initialized "java/lang/Math") (by decide +kernel)
  have k_3 := hts (.code Lib.Math.max.name Lib.Math.max.code 2 (some .int)) (by decide +kernel)
  have L10 : ∀ (n : Nat) (x3 : Int32) (σ : fl_St) (x1 : Int32) (x4 : Int32) (o1 : Int32) (H : Heap) (locs : List Loc) (ls : Array Slot), f_X2_sumAboveZero_l10 fi x3 σ n x1 x4 = some (o1) → gS D (wc ad cz) A s.heap σ H locs → lv_has ls 6 [(1, .int x1), (2, .ref (ad (fi + 3))), (3, .int x3), (4, .int x4)] → (∀ (H : Heap) (locs : List Loc) (ls : Array Slot), gS D (wc ad cz) A s.heap σ H locs → lv_has ls 6 [(1, .int o1)] → W p l e rm_X2_sumAboveZero s m args below meth c H locs 0 0 Q (F0 m 37 ls [])) → W p l e rm_X2_sumAboveZero s m args below meth c H locs 0 0 Q (F0 m 10 ls []) := by
    intro n
    induction n with
    | zero =>
      intro x3 σ x1 x4 o1 H locs ls h hg hl kk0
      rw [f_X2_sumAboveZero_l10] at h
      cases h
    | succ n ih =>
      intro x3 σ x1 x4 o1 H locs ls h hg hl kk0
      rw [f_X2_sumAboveZero_l10] at h
      refine lv_iload hx hb dX2_sumAboveZero_10 (lv_at hl 3 rfl) ?_
      refine lv_iload_n hx hb dX2_sumAboveZero_12 rfl (lv_at hl 2 rfl) ?_
      refine lv_icmp_ge (tgt := 37) hx hb dX2_sumAboveZero_13 (by decide) (fun c1 => ?_) (fun c1 => ?_)
      · have h := fl_ifp c1 h
        obtain rfl := fl_s1 h
        exact kk0 H locs ls hg (lv_sub hl [0] rfl)
      · have h := fl_ifn c1 h
        refine lv_aload_n hx hb dX2_sumAboveZero_16 rfl (lv_at hl 1 rfl) ?_
        refine lv_iload hx hb dX2_sumAboveZero_17 (lv_at hl 3 rfl) ?_
        obtain ⟨v2, i3, e4, h⟩ := fl_rd_b h
        refine g_ld (n := 8) (t0 := fi) hx hb hK hg (wc_af hfi ad cz _) (wc_tf hfi cz) i3 e4 dX2_sumAboveZero_19 ?_
        refine lv_istore (lv' := [(5, .int v2), (1, .int x1), (2, .ref (ad (fi + 3))), (3, .int x3), (4, .int x4)]) hx hb dX2_sumAboveZero_20 hl (by decide) rfl (fun ls hl => ?_)
        refine lv_iload_n hx hb dX2_sumAboveZero_22 rfl (lv_at hl 1 rfl) ?_
        refine lv_iconst (v := (0)) hx hb dX2_sumAboveZero_23 (by decide) ?_
        refine lv_iload hx hb dX2_sumAboveZero_24 (lv_at hl 0 rfl) ?_
        refine va_mmax (rest := [.int x1]) hx hb (hml.trans hl.1.symm) hown k_0 k_1 k_2 k_3 (Nat.le_of_ble_eq_true rfl) (Nat.le_of_ble_eq_true rfl) (Nat.le_of_ble_eq_true rfl) (Nat.le_of_ble_eq_true rfl) dX2_sumAboveZero_26 ?_
        refine lv_iadd hx hb dX2_sumAboveZero_29 ?_
        refine lv_istore_n (lv' := [(1, .int (x1 + (if (0) < v2 then v2 else (0)))), (5, .int v2), (2, .ref (ad (fi + 3))), (3, .int x3), (4, .int x4)]) hx hb dX2_sumAboveZero_30 rfl hl (by decide) rfl (fun ls hl => ?_)
        refine lv_iinc (v := (x4 + 1)) (lv' := [(4, .int (x4 + 1)), (1, .int (x1 + (if (0) < v2 then v2 else (0)))), (5, .int v2), (2, .ref (ad (fi + 3))), (3, .int x3)]) hx hb dX2_sumAboveZero_31 hl (k := 4) rfl rfl (by decide) rfl (fun ls hl => ?_)
        refine lv_goto (tgt := 10) hx hb dX2_sumAboveZero_34 (by decide) ?_
        exact ih _ _ _ _ _ _ _ _ h hg (lv_sub hl [1, 3, 4, 0] rfl) kk0
  unfold f_X2_sumAboveZero at h
  have W0 : ∀ (H : Heap) (locs : List Loc), gS D (wc ad cz) A s.heap σ H locs → W p l e rm_X2_sumAboveZero s m args below meth c H locs 0 0 Q (F0 m 0 ls []) := by
    intro H locs hg
    refine lv_iconst (v := (0)) hx hb dX2_sumAboveZero_0 (by decide) ?_
    refine lv_istore_n (lv' := [(1, .int (0)), (0, .ref (ad (fi + 3)))]) hx hb dX2_sumAboveZero_1 rfl hl (by decide) rfl (fun ls hl => ?_)
    refine lv_aload_n hx hb dX2_sumAboveZero_2 rfl (lv_at hl 1 rfl) ?_
    refine lv_astore_n (lv' := [(2, .ref (ad (fi + 3))), (1, .int (0)), (0, .ref (ad (fi + 3)))]) hx hb dX2_sumAboveZero_3 rfl hl (by decide) rfl (fun ls hl => ?_)
    refine lv_aload_n hx hb dX2_sumAboveZero_4 rfl (lv_at hl 0 rfl) ?_
    refine va_alen (v := (8)) hx hb hK.1 hg.1 (fi + 3) (fi) (wc_af hfi ad cz _) (ty := .int) (wc_tf hfi cz) rfl dX2_sumAboveZero_5 ?_
    refine lv_istore_n (lv' := [(3, .int (8)), (2, .ref (ad (fi + 3))), (1, .int (0)), (0, .ref (ad (fi + 3)))]) hx hb dX2_sumAboveZero_6 rfl hl (by decide) rfl (fun ls hl => ?_)
    refine lv_iconst (v := (0)) hx hb dX2_sumAboveZero_7 (by decide) ?_
    refine lv_istore (lv' := [(4, .int (0)), (3, .int (8)), (2, .ref (ad (fi + 3))), (1, .int (0)), (0, .ref (ad (fi + 3)))]) hx hb dX2_sumAboveZero_8 hl (by decide) rfl (fun ls hl => ?_)
    obtain ⟨w5, hB6, h⟩ := fl_bnd h
    refine L10 fl_N _ _ _ _ _ H locs ls hB6 hg (lv_sub hl [3, 2, 1, 0] rfl) (fun H locs ls hg hl => ?_)
    refine lv_iload_n hx hb dX2_sumAboveZero_37 rfl (lv_at hl 0 rfl) ?_
    exact hret _ _ _ _ _ _ (congrArg (Option.map (fun q => (q, σ))) h) hg rfl dX2_sumAboveZero_38
  exact W0 _ _ hg
def f_X0_totalSupply (σ : fl_St) : Option (Int32) := (f_X2_sumAboveZero 4 σ).bind fun r2 => some r2
def rm_X0_totalSupply : Room := { frames := 2, cells := 0, slots := 0, locals := 46 }
set_option maxHeartbeats 4000000 in
set_option maxRecDepth 100000 in
theorem c_X0_totalSupply (l : Launch) (D : va_G) (ad : Nat → Nat) (cz : Nat → ClassId) (σ : fl_St) {r : Int32} (h : f_X0_totalSupply σ = some r) : gMi l yX0_totalSupply wsX0_totalSupply rm_X0_totalSupply D (wc ad cz) (wcT cz) wcN [.ref (ad 1)] σ r σ := by
  refine gMi_of (cc := cX0_totalSupply) (maxL := 1) (by decide) rfl (Nat.le_of_ble_eq_true rfl) ?_
  intro p e s m args below meth c A Q ls hx hb hml hown hts hK hA hg hl hret
  have hown : s.vm.findClass RX0 = some m.cls := hown
  have hl : lv_has ls 1 [(0, .ref (ad 1))] := hl
  have k_0 := hts (.fieldLink RX0 24 "FlowLedger$Network" "supply" "[I") (by decide +kernel)
  have k_1 := (by decide +kernel : ∀ w ∈ wsX00, w ∈ wsX0_totalSupply)
  have k_2 := hts (.initialized RX2) (by decide +kernel)
  have k_3 := hts (.static yX2_sumAboveZero) (by decide +kernel)
  unfold f_X0_totalSupply at h
  have W0 : ∀ (H : Heap) (locs : List Loc), gS D (wc ad cz) A s.heap σ H locs → W p l e rm_X0_totalSupply s m args below meth c H locs 0 0 Q (F0 m 0 ls []) := by
    intro H locs hg
    refine lv_aload_n hx hb dX0_totalSupply_0 rfl (lv_at hl 0 rfl) ?_
    refine va_get (D := D) (ci := 0) (v := .ref (ad 7)) (C := RX0) (T := TX0) (N := 6) hx hb hts k_1 hown hK.1 hg.1 1 rfl rfl 4 (by decide) k_0 (fun _ h9 => h9) rfl dX0_totalSupply_1 ?_
    obtain ⟨r2, e1, h⟩ := fl_bnd h
    refine g_callNi (As := [.ref (ad 7)]) (rest := []) (host := RX2) ⟨hx, hb, hml, hown, hts⟩ (c_X2_sumAboveZero l D ad cz (Or.inl rfl) (σ) e1) ⟨va_cnB 1 hts gX0_totalSupply_X2_sumAboveZero_n27 rfl rfl rfl (hK.2 (RX0, 27, yX2_sumAboveZero, RX2) (by simp [wcN])) k_2 (by decide +kernel) ⟨Nat.le_of_ble_eq_true rfl, Nat.le_of_ble_eq_true rfl⟩, k_3, trivial⟩ hK hA hg rfl hl.1 rfl (Nat.le_of_ble_eq_true rfl) dX0_totalSupply_4 ⟨Nat.le_of_ble_eq_true rfl, Nat.le_of_ble_eq_true rfl⟩ (fun H locs hg => ?_)
    exact hret _ _ _ _ _ _ (congrArg (Option.map (fun q => (q, σ))) h) hg rfl dX0_totalSupply_7
  exact W0 _ _ hg
def f_X2_isNode (x0 : Int32) (σ : fl_St) : Option (Int32) := (if x0 < 0 then (some ((0))) else (if (8) ≤ x0 then (some ((0))) else (some ((1))))).bind fun (t2 : Int32) => if ¬ (t2 = 0 ∨ t2 = 1) then none else some t2
def rm_X2_isNode : Room := { frames := 0, cells := 0, slots := 0, locals := 0 }
set_option maxHeartbeats 4000000 in
set_option maxRecDepth 100000 in
theorem c_X2_isNode (l : Launch) (D : va_G) (ad : Nat → Nat) (cz : Nat → ClassId) (x0 : Int32) (σ : fl_St) {r : Int32} (h : f_X2_isNode x0 σ = some r) : gMi l yX2_isNode wsX2_isNode rm_X2_isNode D (wc ad cz) (wcT cz) wcN [.int x0] σ r σ := by
  refine gMi_of (cc := cX2_isNode) (maxL := 1) (by decide) rfl (Nat.le_of_ble_eq_true rfl) ?_
  intro p e s m args below meth c A Q ls hx hb hml hown hts hK hA hg hl hret
  have hown : s.vm.findClass RX2 = some m.cls := hown
  have hl : lv_has ls 1 [(0, .int x0)] := hl
  unfold f_X2_isNode at h
  have W0 : ∀ (H : Heap) (locs : List Loc), gS D (wc ad cz) A s.heap σ H locs → W p l e rm_X2_isNode s m args below meth c H locs 0 0 Q (F0 m 0 ls []) := by
    intro H locs hg
    refine lv_iload_n hx hb dX2_isNode_0 rfl (lv_at hl 0 rfl) ?_
    obtain ⟨t2, hB4, h⟩ := fl_bnd h
    have J3 : ∀ (H : Heap) (locs : List Loc) (ls : Array Slot), gS D (wc ad cz) A s.heap σ H locs → lv_has ls 1 [] → W p l e rm_X2_isNode s m args below meth c H locs 0 0 Q (F0 m 15 ls [.int t2]) := by
      intro H locs ls hg hl
      obtain ⟨z5, h⟩ := fl_bool h
      exact hret _ _ _ _ _ _ (congrArg (Option.map (fun q => (q, σ))) h) hg (fl_nar2 z5) dX2_isNode_15
    clear h
    have h := hB4
    refine lv_if_lt (tgt := 14) hx hb dX2_isNode_1 (by decide) (fun c1 => ?_) (fun c1 => ?_)
    · have h := fl_ifp c1 h
      refine lv_iconst (v := (0)) hx hb dX2_isNode_14 (by decide) ?_
      obtain rfl := fl_s1 h
      exact J3 H locs ls hg (lv_sub hl [] rfl)
    · have h := fl_ifn c1 h
      refine lv_iload_n hx hb dX2_isNode_4 rfl (lv_at hl 0 rfl) ?_
      refine lv_bipush (v := (8)) hx hb dX2_isNode_5 (by decide) ?_
      refine lv_icmp_ge (tgt := 14) hx hb dX2_isNode_7 (by decide) (fun c6 => ?_) (fun c6 => ?_)
      · have h := fl_ifp c6 h
        refine lv_iconst (v := (0)) hx hb dX2_isNode_14 (by decide) ?_
        obtain rfl := fl_s1 h
        exact J3 H locs ls hg (lv_sub hl [] rfl)
      · have h := fl_ifn c6 h
        refine lv_iconst (v := (1)) hx hb dX2_isNode_10 (by decide) ?_
        refine lv_goto (tgt := 15) hx hb dX2_isNode_11 (by decide) ?_
        obtain rfl := fl_s1 h
        exact J3 H locs ls hg (lv_sub hl [] rfl)
  exact W0 _ _ hg
def f_X2_isArcData (x0 : Int32) (x1 : Int32) (σ : fl_St) : Option (Int32) := (if x0 < (-1) then (some ((0))) else (if (30) < x0 then (some ((0))) else (if x1 < (-20) then (some ((0))) else (if (20) < x1 then (some ((0))) else (some ((1))))))).bind fun (t2 : Int32) => if ¬ (t2 = 0 ∨ t2 = 1) then none else some t2
def rm_X2_isArcData : Room := { frames := 0, cells := 0, slots := 0, locals := 0 }
set_option maxHeartbeats 4000000 in
set_option maxRecDepth 100000 in
theorem c_X2_isArcData (l : Launch) (D : va_G) (ad : Nat → Nat) (cz : Nat → ClassId) (x0 : Int32) (x1 : Int32) (σ : fl_St) {r : Int32} (h : f_X2_isArcData x0 x1 σ = some r) : gMi l yX2_isArcData wsX2_isArcData rm_X2_isArcData D (wc ad cz) (wcT cz) wcN [.int x0, .int x1] σ r σ := by
  refine gMi_of (cc := cX2_isArcData) (maxL := 2) (by decide) rfl (Nat.le_of_ble_eq_true rfl) ?_
  intro p e s m args below meth c A Q ls hx hb hml hown hts hK hA hg hl hret
  have hown : s.vm.findClass RX2 = some m.cls := hown
  have hl : lv_has ls 2 [(0, .int x0), (1, .int x1)] := hl
  unfold f_X2_isArcData at h
  have W0 : ∀ (H : Heap) (locs : List Loc), gS D (wc ad cz) A s.heap σ H locs → W p l e rm_X2_isArcData s m args below meth c H locs 0 0 Q (F0 m 0 ls []) := by
    intro H locs hg
    refine lv_iload_n hx hb dX2_isArcData_0 rfl (lv_at hl 0 rfl) ?_
    refine lv_iconst (v := (-1)) hx hb dX2_isArcData_1 (by decide) ?_
    obtain ⟨t2, hB4, h⟩ := fl_bnd h
    have J3 : ∀ (H : Heap) (locs : List Loc) (ls : Array Slot), gS D (wc ad cz) A s.heap σ H locs → lv_has ls 2 [] → W p l e rm_X2_isArcData s m args below meth c H locs 0 0 Q (F0 m 28 ls [.int t2]) := by
      intro H locs ls hg hl
      obtain ⟨z5, h⟩ := fl_bool h
      exact hret _ _ _ _ _ _ (congrArg (Option.map (fun q => (q, σ))) h) hg (fl_nar2 z5) dX2_isArcData_28
    clear h
    have h := hB4
    refine lv_icmp_lt (tgt := 27) hx hb dX2_isArcData_2 (by decide) (fun c1 => ?_) (fun c1 => ?_)
    · have h := fl_ifp c1 h
      refine lv_iconst (v := (0)) hx hb dX2_isArcData_27 (by decide) ?_
      obtain rfl := fl_s1 h
      exact J3 H locs ls hg (lv_sub hl [] rfl)
    · have h := fl_ifn c1 h
      refine lv_iload_n hx hb dX2_isArcData_5 rfl (lv_at hl 0 rfl) ?_
      refine lv_bipush (v := (30)) hx hb dX2_isArcData_6 (by decide) ?_
      refine lv_icmp_gt (tgt := 27) hx hb dX2_isArcData_8 (by decide) (fun c6 => ?_) (fun c6 => ?_)
      · have h := fl_ifp c6 h
        refine lv_iconst (v := (0)) hx hb dX2_isArcData_27 (by decide) ?_
        obtain rfl := fl_s1 h
        exact J3 H locs ls hg (lv_sub hl [] rfl)
      · have h := fl_ifn c6 h
        refine lv_iload_n hx hb dX2_isArcData_11 rfl (lv_at hl 1 rfl) ?_
        refine lv_bipush (v := (-20)) hx hb dX2_isArcData_12 (by decide) ?_
        refine lv_icmp_lt (tgt := 27) hx hb dX2_isArcData_14 (by decide) (fun c7 => ?_) (fun c7 => ?_)
        · have h := fl_ifp c7 h
          refine lv_iconst (v := (0)) hx hb dX2_isArcData_27 (by decide) ?_
          obtain rfl := fl_s1 h
          exact J3 H locs ls hg (lv_sub hl [] rfl)
        · have h := fl_ifn c7 h
          refine lv_iload_n hx hb dX2_isArcData_17 rfl (lv_at hl 1 rfl) ?_
          refine lv_bipush (v := (20)) hx hb dX2_isArcData_18 (by decide) ?_
          refine lv_icmp_gt (tgt := 27) hx hb dX2_isArcData_20 (by decide) (fun c8 => ?_) (fun c8 => ?_)
          · have h := fl_ifp c8 h
            refine lv_iconst (v := (0)) hx hb dX2_isArcData_27 (by decide) ?_
            obtain rfl := fl_s1 h
            exact J3 H locs ls hg (lv_sub hl [] rfl)
          · have h := fl_ifn c8 h
            refine lv_iconst (v := (1)) hx hb dX2_isArcData_23 (by decide) ?_
            refine lv_goto (tgt := 28) hx hb dX2_isArcData_24 (by decide) ?_
            obtain rfl := fl_s1 h
            exact J3 H locs ls hg (lv_sub hl [] rfl)
  exact W0 _ _ hg
def f_X2_isArc (x1 : Int32) (σ : fl_St) : Option (Int32) := (if x1 < 0 then (some ((0))) else (if (σ 12 0) ≤ x1 then (some ((0))) else (some ((1))))).bind fun (t2 : Int32) => if ¬ (t2 = 0 ∨ t2 = 1) then none else some t2
def rm_X2_isArc : Room := { frames := 0, cells := 0, slots := 0, locals := 0 }
set_option maxHeartbeats 4000000 in
set_option maxRecDepth 100000 in
theorem c_X2_isArc (l : Launch) (D : va_G) (ad : Nat → Nat) (cz : Nat → ClassId) (x1 : Int32) (σ : fl_St) {r : Int32} (h : f_X2_isArc x1 σ = some r) : gMi l yX2_isArc wsX2_isArc rm_X2_isArc D (wc ad cz) (wcT cz) wcN [.ref (ad 0), .int x1] σ r σ := by
  refine gMi_of (cc := cX2_isArc) (maxL := 2) (by decide) rfl (Nat.le_of_ble_eq_true rfl) ?_
  intro p e s m args below meth c A Q ls hx hb hml hown hts hK hA hg hl hret
  have hown : s.vm.findClass RX2 = some m.cls := hown
  have hl : lv_has ls 2 [(0, .ref (ad 0)), (1, .int x1)] := hl
  have k_0 := hts (.fieldLink RX2 12 "FlowLedger" "network" "LFlowLedger$Network;") (by decide +kernel)
  have k_1 := (by decide +kernel : ∀ w ∈ wsX20, w ∈ wsX2_isArc)
  have k_2 := hts (.fieldLink RX2 34 "FlowLedger$Network" "count" "I") (by decide +kernel)
  have k_3 := (by decide +kernel : ∀ w ∈ wsX00, w ∈ wsX2_isArc)
  unfold f_X2_isArc at h
  have W0 : ∀ (H : Heap) (locs : List Loc), gS D (wc ad cz) A s.heap σ H locs → W p l e rm_X2_isArc s m args below meth c H locs 0 0 Q (F0 m 0 ls []) := by
    intro H locs hg
    refine lv_iload_n hx hb dX2_isArc_0 rfl (lv_at hl 1 rfl) ?_
    obtain ⟨t2, hB4, h⟩ := fl_bnd h
    have J3 : ∀ (H : Heap) (locs : List Loc) (ls : Array Slot), gS D (wc ad cz) A s.heap σ H locs → lv_has ls 2 [] → W p l e rm_X2_isArc s m args below meth c H locs 0 0 Q (F0 m 20 ls [.int t2]) := by
      intro H locs ls hg hl
      obtain ⟨z5, h⟩ := fl_bool h
      exact hret _ _ _ _ _ _ (congrArg (Option.map (fun q => (q, σ))) h) hg (fl_nar2 z5) dX2_isArc_20
    clear h
    have h := hB4
    refine lv_if_lt (tgt := 19) hx hb dX2_isArc_1 (by decide) (fun c1 => ?_) (fun c1 => ?_)
    · have h := fl_ifp c1 h
      refine lv_iconst (v := (0)) hx hb dX2_isArc_19 (by decide) ?_
      obtain rfl := fl_s1 h
      exact J3 H locs ls hg (lv_sub hl [] rfl)
    · have h := fl_ifn c1 h
      refine lv_iload_n hx hb dX2_isArc_4 rfl (lv_at hl 1 rfl) ?_
      refine lv_aload_n hx hb dX2_isArc_5 rfl (lv_at hl 0 rfl) ?_
      refine va_get (D := D) (ci := 2) (v := .ref (ad 1)) (C := RX2) (T := TX2) (N := 2) hx hb hts k_1 hown hK.1 hg.1 0 rfl rfl 0 (by decide) k_0 (fun _ h9 => h9) rfl dX2_isArc_6 ?_
      refine va_get (D := D) (ci := 0) (v := .int (σ 12 0)) (C := RX0) (T := TX0) (N := 6) hx hb hts k_3 hown hK.1 hg.1 1 rfl rfl 5 (by decide) k_2 (fun _ h9 => h9) rfl dX2_isArc_9 ?_
      refine lv_icmp_ge (tgt := 19) hx hb dX2_isArc_12 (by decide) (fun c6 => ?_) (fun c6 => ?_)
      · have h := fl_ifp c6 h
        refine lv_iconst (v := (0)) hx hb dX2_isArc_19 (by decide) ?_
        obtain rfl := fl_s1 h
        exact J3 H locs ls hg (lv_sub hl [] rfl)
      · have h := fl_ifn c6 h
        refine lv_iconst (v := (1)) hx hb dX2_isArc_15 (by decide) ?_
        refine lv_goto (tgt := 20) hx hb dX2_isArc_16 (by decide) ?_
        obtain rfl := fl_s1 h
        exact J3 H locs ls hg (lv_sub hl [] rfl)
  exact W0 _ _ hg
def f_X1_isShortcut (x1 : Int32) (σ : fl_St) : Option (Int32) := (fl_rd σ 5 40 x1).bind fun v1 => (fl_rd σ 10 8 v1).bind fun v4 => (fl_rd σ 7 40 x1).bind fun v7 => (fl_rd σ 6 40 x1).bind fun v10 => (fl_rd σ 10 8 v10).bind fun v13 => (if v13 ≤ (v4 + v7) then (some ((0))) else (some ((1)))).bind fun (t17 : Int32) => if ¬ (t17 = 0 ∨ t17 = 1) then none else some t17
def rm_X1_isShortcut : Room := { frames := 0, cells := 0, slots := 0, locals := 0 }
set_option maxHeartbeats 4000000 in
set_option maxRecDepth 100000 in
theorem c_X1_isShortcut (l : Launch) (D : va_G) (ad : Nat → Nat) (cz : Nat → ClassId) (x1 : Int32) (σ : fl_St) {r : Int32} (h : f_X1_isShortcut x1 σ = some r) : gMi l yX1_isShortcut wsX1_isShortcut rm_X1_isShortcut D (wc ad cz) (wcT cz) wcN [.ref (ad 2), .int x1] σ r σ := by
  refine gMi_of (cc := cX1_isShortcut) (maxL := 2) (by decide) rfl (Nat.le_of_ble_eq_true rfl) ?_
  intro p e s m args below meth c A Q ls hx hb hml hown hts hK hA hg hl hret
  have hown : s.vm.findClass RX1 = some m.cls := hown
  have hl : lv_has ls 2 [(0, .ref (ad 2)), (1, .int x1)] := hl
  have k_0 := hts (.fieldLink RX1 27 "FlowLedger$Router" "distance" "[I") (by decide +kernel)
  have k_1 := (by decide +kernel : ∀ w ∈ wsX10, w ∈ wsX1_isShortcut)
  have k_2 := hts (.fieldLink RX1 9 "FlowLedger$Router" "tail" "[I") (by decide +kernel)
  have k_3 := hts (.fieldLink RX1 18 "FlowLedger$Router" "weight" "[I") (by decide +kernel)
  have k_4 := hts (.fieldLink RX1 15 "FlowLedger$Router" "head" "[I") (by decide +kernel)
  unfold f_X1_isShortcut at h
  have W0 : ∀ (H : Heap) (locs : List Loc), gS D (wc ad cz) A s.heap σ H locs → W p l e rm_X1_isShortcut s m args below meth c H locs 0 0 Q (F0 m 0 ls []) := by
    intro H locs hg
    refine lv_aload_n hx hb dX1_isShortcut_0 rfl (lv_at hl 0 rfl) ?_
    refine va_get (D := D) (ci := 1) (v := .ref (ad 13)) (C := RX1) (T := TX1) (N := 8) hx hb hts k_1 hown hK.1 hg.1 2 rfl rfl 6 (by decide) k_0 (fun _ h9 => h9) rfl dX1_isShortcut_1 ?_
    refine lv_aload_n hx hb dX1_isShortcut_4 rfl (lv_at hl 0 rfl) ?_
    refine va_get (D := D) (ci := 1) (v := .ref (ad 8)) (C := RX1) (T := TX1) (N := 8) hx hb hts k_1 hown hK.1 hg.1 2 rfl rfl 1 (by decide) k_2 (fun _ h9 => h9) rfl dX1_isShortcut_5 ?_
    refine lv_iload_n hx hb dX1_isShortcut_8 rfl (lv_at hl 1 rfl) ?_
    obtain ⟨v1, i2, e3, h⟩ := fl_rd_b h
    refine g_ld (n := 40) (t0 := 5) hx hb hK hg (wc_a5 ad cz _) rfl i2 e3 dX1_isShortcut_9 ?_
    obtain ⟨v4, i5, e6, h⟩ := fl_rd_b h
    refine g_ld (n := 8) (t0 := 10) hx hb hK hg (wc_a10 ad cz _) rfl i5 e6 dX1_isShortcut_10 ?_
    refine lv_aload_n hx hb dX1_isShortcut_11 rfl (lv_at hl 0 rfl) ?_
    refine va_get (D := D) (ci := 1) (v := .ref (ad 10)) (C := RX1) (T := TX1) (N := 8) hx hb hts k_1 hown hK.1 hg.1 2 rfl rfl 3 (by decide) k_3 (fun _ h9 => h9) rfl dX1_isShortcut_12 ?_
    refine lv_iload_n hx hb dX1_isShortcut_15 rfl (lv_at hl 1 rfl) ?_
    obtain ⟨v7, i8, e9, h⟩ := fl_rd_b h
    refine g_ld (n := 40) (t0 := 7) hx hb hK hg (wc_a7 ad cz _) rfl i8 e9 dX1_isShortcut_16 ?_
    refine lv_iadd hx hb dX1_isShortcut_17 ?_
    refine lv_aload_n hx hb dX1_isShortcut_18 rfl (lv_at hl 0 rfl) ?_
    refine va_get (D := D) (ci := 1) (v := .ref (ad 13)) (C := RX1) (T := TX1) (N := 8) hx hb hts k_1 hown hK.1 hg.1 2 rfl rfl 6 (by decide) k_0 (fun _ h9 => h9) rfl dX1_isShortcut_19 ?_
    refine lv_aload_n hx hb dX1_isShortcut_22 rfl (lv_at hl 0 rfl) ?_
    refine va_get (D := D) (ci := 1) (v := .ref (ad 9)) (C := RX1) (T := TX1) (N := 8) hx hb hts k_1 hown hK.1 hg.1 2 rfl rfl 2 (by decide) k_4 (fun _ h9 => h9) rfl dX1_isShortcut_23 ?_
    refine lv_iload_n hx hb dX1_isShortcut_26 rfl (lv_at hl 1 rfl) ?_
    obtain ⟨v10, i11, e12, h⟩ := fl_rd_b h
    refine g_ld (n := 40) (t0 := 6) hx hb hK hg (wc_a6 ad cz _) rfl i11 e12 dX1_isShortcut_27 ?_
    obtain ⟨v13, i14, e15, h⟩ := fl_rd_b h
    refine g_ld (n := 8) (t0 := 10) hx hb hK hg (wc_a10 ad cz _) rfl i14 e15 dX1_isShortcut_28 ?_
    obtain ⟨t17, hB19, h⟩ := fl_bnd h
    have J18 : ∀ (H : Heap) (locs : List Loc) (ls : Array Slot), gS D (wc ad cz) A s.heap σ H locs → lv_has ls 2 [] → W p l e rm_X1_isShortcut s m args below meth c H locs 0 0 Q (F0 m 37 ls [.int t17]) := by
      intro H locs ls hg hl
      obtain ⟨z20, h⟩ := fl_bool h
      exact hret _ _ _ _ _ _ (congrArg (Option.map (fun q => (q, σ))) h) hg (fl_nar2 z20) dX1_isShortcut_37
    clear h
    have h := hB19
    refine lv_icmp_ge (tgt := 36) hx hb dX1_isShortcut_29 (by decide) (fun c16 => ?_) (fun c16 => ?_)
    · have h := fl_ifp c16 h
      refine lv_iconst (v := (0)) hx hb dX1_isShortcut_36 (by decide) ?_
      obtain rfl := fl_s1 h
      exact J18 H locs ls hg (lv_sub hl [] rfl)
    · have h := fl_ifn c16 h
      refine lv_iconst (v := (1)) hx hb dX1_isShortcut_32 (by decide) ?_
      refine lv_goto (tgt := 37) hx hb dX1_isShortcut_33 (by decide) ?_
      obtain rfl := fl_s1 h
      exact J18 H locs ls hg (lv_sub hl [] rfl)
  exact W0 _ _ hg
def f_X1_measure_l19 (x1 : Int32) (x3 : Int32) : Nat → Int32 → Int32 → fl_St → Option (Int32 × fl_St)
  | 0, _, _, _ => none
  | n + 1, x2, x4, σ => if ((2) * (σ 12 0)) ≤ x4 then (some (x2, σ)) else ((fl_rd σ 8 40 x4).bind fun v4 => (if v4 ≤ 0 then (some ((0))) else (if (x4 >>> ((1) &&& 31)) = x1 then (some ((0))) else (some ((1))))).bind fun (t8 : Int32) => fl_b2 (if t8 = 0 then (some (x2, σ)) else ((fl_rd σ 5 40 x4).bind fun v16 => (fl_rd σ 10 8 v16).bind fun v19 => if (1000000000) ≤ v19 then (some (x2, σ)) else ((f_X1_isShortcut x4 σ).bind fun r24 => if r24 = 0 then (some (x2, σ)) else ((fl_rd σ 6 40 x4).bind fun v26 => (fl_rd σ 5 40 x4).bind fun v29 => (fl_rd σ 10 8 v29).bind fun v32 => (fl_rd σ 7 40 x4).bind fun v35 => (fl_wr σ 10 8 v26 (v32 + v35)).bind fun σ38 => (fl_rd σ38 6 40 x4).bind fun v41 => (fl_wr σ38 11 8 v41 x4).bind fun σ44 => some ((1), σ44))))) fun (w12 : Int32) (σ13 : fl_St) => f_X1_measure_l19 x1 x3 n w12 (x4 + 1) σ13)
def f_X1_measure_l4 (x1 : Int32) : Nat → Int32 → Int32 → fl_St → Option (fl_St)
  | 0, _, _, _ => none
  | n + 1, x2, x3, σ => if x2 = 0 then (some (σ)) else (if (8) ≤ x3 then (some (σ)) else (fl_b2 (f_X1_measure_l19 x1 x3 fl_N (0) (0) σ) fun (w48 : Int32) (σ49 : fl_St) => f_X1_measure_l4 x1 n w48 (x3 + 1) σ49))
def f_X1_measure (x1 : Int32) (σ : fl_St) : Option (fl_St) := (f_X1_measure_l4 x1 fl_N (1) (0) σ).bind fun (σ51 : fl_St) => some σ51
def rm_X1_measure : Room := { frames := 1, cells := 0, slots := 0, locals := 21 }
set_option maxHeartbeats 4000000 in
set_option maxRecDepth 100000 in
theorem c_X1_measure (l : Launch) (D : va_G) (ad : Nat → Nat) (cz : Nat → ClassId) (x1 : Int32) (σ : fl_St) {σ' : fl_St} (h : f_X1_measure x1 σ = some σ') : gMv l yX1_measure wsX1_measure rm_X1_measure D (wc ad cz) (wcT cz) wcN [.ref (ad 2), .int x1] σ σ' := by
  refine gMv_of (cc := cX1_measure) (maxL := 6) (by decide) rfl (Nat.le_of_ble_eq_true rfl) ?_
  intro p e s m args below meth c A Q ls hx hb hml hown hts hK hA hg hl hret
  have hown : s.vm.findClass RX1 = some m.cls := hown
  have hl : lv_has ls 6 [(0, .ref (ad 2)), (1, .int x1)] := hl
  have k_0 := hts (.fieldLink RX1 33 "FlowLedger$Router" "network" "LFlowLedger$Network;") (by decide +kernel)
  have k_1 := (by decide +kernel : ∀ w ∈ wsX10, w ∈ wsX1_measure)
  have k_2 := hts (.fieldLink RX1 37 "FlowLedger$Network" "count" "I") (by decide +kernel)
  have k_3 := (by decide +kernel : ∀ w ∈ wsX00, w ∈ wsX1_measure)
  have k_4 := hts (.fieldLink RX1 21 "FlowLedger$Router" "room" "[I") (by decide +kernel)
  have k_5 := hts (.fieldLink RX1 27 "FlowLedger$Router" "distance" "[I") (by decide +kernel)
  have k_6 := hts (.fieldLink RX1 9 "FlowLedger$Router" "tail" "[I") (by decide +kernel)
  have k_7 := hts (.constant RX1 76 (1000000000)) (by decide +kernel)
  have k_8 := hts (.fieldLink RX1 15 "FlowLedger$Router" "head" "[I") (by decide +kernel)
  have k_9 := hts (.fieldLink RX1 18 "FlowLedger$Router" "weight" "[I") (by decide +kernel)
  have k_10 := hts (.fieldLink RX1 30 "FlowLedger$Router" "entry" "[I") (by decide +kernel)
  have L19 : ∀ (n : Nat) (x1 : Int32) (x3 : Int32) (x2 : Int32) (x4 : Int32) (σ : fl_St) (o2 : Int32) (σo : fl_St) (H : Heap) (locs : List Loc) (ls : Array Slot), f_X1_measure_l19 x1 x3 n x2 x4 σ = some (o2, σo) → gS D (wc ad cz) A s.heap σ H locs → lv_has ls 6 [(0, .ref (ad 2)), (1, .int x1), (2, .int x2), (3, .int x3), (4, .int x4)] → (∀ (H : Heap) (locs : List Loc) (ls : Array Slot), gS D (wc ad cz) A s.heap σo H locs → lv_has ls 6 [(0, .ref (ad 2)), (1, .int x1), (2, .int o2), (3, .int x3)] → W p l e rm_X1_measure s m args below meth c H locs 0 0 Q (F0 m 143 ls [])) → W p l e rm_X1_measure s m args below meth c H locs 0 0 Q (F0 m 19 ls []) := by
    intro n
    induction n with
    | zero =>
      intro x1 x3 x2 x4 σ o2 σo H locs ls h hg hl kk0
      rw [f_X1_measure_l19] at h
      cases h
    | succ n ih =>
      intro x1 x3 x2 x4 σ o2 σo H locs ls h hg hl kk0
      rw [f_X1_measure_l19] at h
      refine lv_iload hx hb dX1_measure_19 (lv_at hl 4 rfl) ?_
      refine lv_iconst (v := (2)) hx hb dX1_measure_21 (by decide) ?_
      refine lv_aload_n hx hb dX1_measure_22 rfl (lv_at hl 0 rfl) ?_
      refine va_get (D := D) (ci := 1) (v := .ref (ad 1)) (C := RX1) (T := TX1) (N := 8) hx hb hts k_1 hown hK.1 hg.1 2 rfl rfl 0 (by decide) k_0 (fun _ h9 => h9) rfl dX1_measure_23 ?_
      refine va_get (D := D) (ci := 0) (v := .int (σ 12 0)) (C := RX0) (T := TX0) (N := 6) hx hb hts k_3 hown hK.1 hg.1 1 rfl rfl 5 (by decide) k_2 (fun _ h9 => h9) rfl dX1_measure_26 ?_
      refine lv_imul hx hb dX1_measure_29 ?_
      refine lv_icmp_ge (tgt := 143) hx hb dX1_measure_30 (by decide) (fun c3 => ?_) (fun c3 => ?_)
      · have h := fl_ifp c3 h
        obtain ⟨rfl, rfl⟩ := fl_s2 h
        exact kk0 H locs ls hg (lv_sub hl [0, 1, 2, 3] rfl)
      · have h := fl_ifn c3 h
        refine lv_aload_n hx hb dX1_measure_33 rfl (lv_at hl 0 rfl) ?_
        refine va_get (D := D) (ci := 1) (v := .ref (ad 11)) (C := RX1) (T := TX1) (N := 8) hx hb hts k_1 hown hK.1 hg.1 2 rfl rfl 4 (by decide) k_4 (fun _ h9 => h9) rfl dX1_measure_34 ?_
        refine lv_iload hx hb dX1_measure_37 (lv_at hl 4 rfl) ?_
        obtain ⟨v4, i5, e6, h⟩ := fl_rd_b h
        refine g_ld (n := 40) (t0 := 8) hx hb hK hg (wc_a8 ad cz _) rfl i5 e6 dX1_measure_39 ?_
        obtain ⟨t8, hB10, h⟩ := fl_bnd h
        have J9 : ∀ (H : Heap) (locs : List Loc) (ls : Array Slot), gS D (wc ad cz) A s.heap σ H locs → lv_has ls 6 [(0, .ref (ad 2)), (1, .int x1), (2, .int x2), (3, .int x3), (4, .int x4)] → W p l e rm_X1_measure s m args below meth c H locs 0 0 Q (F0 m 56 ls [.int t8]) := by
          intro H locs ls hg hl
          refine lv_istore (lv' := [(5, .int t8), (0, .ref (ad 2)), (1, .int x1), (2, .int x2), (3, .int x3), (4, .int x4)]) hx hb dX1_measure_56 hl (by decide) rfl (fun ls hl => ?_)
          refine lv_iload hx hb dX1_measure_58 (lv_at hl 0 rfl) ?_
          obtain ⟨w12, σ13, hB15, h⟩ := fl_b2_b h
          have J14 : ∀ (H : Heap) (locs : List Loc) (ls : Array Slot), gS D (wc ad cz) A s.heap σ13 H locs → lv_has ls 6 [(0, .ref (ad 2)), (1, .int x1), (2, .int w12), (3, .int x3), (4, .int x4)] → W p l e rm_X1_measure s m args below meth c H locs 0 0 Q (F0 m 137 ls []) := by
            intro H locs ls hg hl
            refine lv_iinc (v := (x4 + 1)) (lv' := [(4, .int (x4 + 1)), (0, .ref (ad 2)), (1, .int x1), (2, .int w12), (3, .int x3)]) hx hb dX1_measure_137 hl (k := 4) rfl rfl (by decide) rfl (fun ls hl => ?_)
            refine lv_goto (tgt := 19) hx hb dX1_measure_140 (by decide) ?_
            exact ih _ _ _ _ _ _ _ _ _ _ h hg (lv_sub hl [1, 2, 3, 4, 0] rfl) kk0
          clear h
          have h := hB15
          refine lv_if_eq (tgt := 137) hx hb dX1_measure_60 (by decide) (fun c11 => ?_) (fun c11 => ?_)
          · have h := fl_ifp c11 h
            obtain ⟨rfl, rfl⟩ := fl_s2 h
            exact J14 H locs ls hg (lv_sub hl [1, 2, 3, 4, 5] rfl)
          · have h := fl_ifn c11 h
            refine lv_aload_n hx hb dX1_measure_63 rfl (lv_at hl 1 rfl) ?_
            refine va_get (D := D) (ci := 1) (v := .ref (ad 13)) (C := RX1) (T := TX1) (N := 8) hx hb hts k_1 hown hK.1 hg.1 2 rfl rfl 6 (by decide) k_5 (fun _ h9 => h9) rfl dX1_measure_64 ?_
            refine lv_aload_n hx hb dX1_measure_67 rfl (lv_at hl 1 rfl) ?_
            refine va_get (D := D) (ci := 1) (v := .ref (ad 8)) (C := RX1) (T := TX1) (N := 8) hx hb hts k_1 hown hK.1 hg.1 2 rfl rfl 1 (by decide) k_6 (fun _ h9 => h9) rfl dX1_measure_68 ?_
            refine lv_iload hx hb dX1_measure_71 (lv_at hl 5 rfl) ?_
            obtain ⟨v16, i17, e18, h⟩ := fl_rd_b h
            refine g_ld (n := 40) (t0 := 5) hx hb hK hg (wc_a5 ad cz _) rfl i17 e18 dX1_measure_73 ?_
            obtain ⟨v19, i20, e21, h⟩ := fl_rd_b h
            refine g_ld (n := 8) (t0 := 10) hx hb hK hg (wc_a10 ad cz _) rfl i20 e21 dX1_measure_74 ?_
            refine lv_ldc hx hb hown k_7 dX1_measure_75 ?_
            refine lv_icmp_ge (tgt := 137) hx hb dX1_measure_77 (by decide) (fun c22 => ?_) (fun c22 => ?_)
            · have h := fl_ifp c22 h
              obtain ⟨rfl, rfl⟩ := fl_s2 h
              exact J14 H locs ls hg (lv_sub hl [1, 2, 3, 4, 5] rfl)
            · have h := fl_ifn c22 h
              refine lv_aload_n hx hb dX1_measure_80 rfl (lv_at hl 1 rfl) ?_
              refine lv_iload hx hb dX1_measure_81 (lv_at hl 5 rfl) ?_
              obtain ⟨r24, e23, h⟩ := fl_bnd h
              refine g_callVi (As := [.int x4]) (rest := []) ⟨hx, hb, hml, hown, hts⟩ (c_X1_isShortcut l D ad cz (x4) (σ) e23) (cwV 1 hts gX1_measure_X1_isShortcut rfl rfl rfl (by decide +kernel) ⟨Nat.le_of_ble_eq_true rfl, Nat.le_of_ble_eq_true rfl⟩) (va_recv hK.1 hg.1 (ci := 1) (q0 := 2) rfl rfl) hK hA hg rfl hl.1 rfl (Nat.le_of_ble_eq_true rfl) dX1_measure_83 ⟨Nat.le_of_ble_eq_true rfl, Nat.le_of_ble_eq_true rfl⟩ (fun H locs hg => ?_)
              refine lv_if_eq (tgt := 137) hx hb dX1_measure_86 (by decide) (fun c25 => ?_) (fun c25 => ?_)
              · have h := fl_ifp c25 h
                obtain ⟨rfl, rfl⟩ := fl_s2 h
                exact J14 H locs ls hg (lv_sub hl [1, 2, 3, 4, 5] rfl)
              · have h := fl_ifn c25 h
                refine lv_aload_n hx hb dX1_measure_89 rfl (lv_at hl 1 rfl) ?_
                refine va_get (D := D) (ci := 1) (v := .ref (ad 13)) (C := RX1) (T := TX1) (N := 8) hx hb hts k_1 hown hK.1 hg.1 2 rfl rfl 6 (by decide) k_5 (fun _ h9 => h9) rfl dX1_measure_90 ?_
                refine lv_aload_n hx hb dX1_measure_93 rfl (lv_at hl 1 rfl) ?_
                refine va_get (D := D) (ci := 1) (v := .ref (ad 9)) (C := RX1) (T := TX1) (N := 8) hx hb hts k_1 hown hK.1 hg.1 2 rfl rfl 2 (by decide) k_8 (fun _ h9 => h9) rfl dX1_measure_94 ?_
                refine lv_iload hx hb dX1_measure_97 (lv_at hl 5 rfl) ?_
                obtain ⟨v26, i27, e28, h⟩ := fl_rd_b h
                refine g_ld (n := 40) (t0 := 6) hx hb hK hg (wc_a6 ad cz _) rfl i27 e28 dX1_measure_99 ?_
                refine lv_aload_n hx hb dX1_measure_100 rfl (lv_at hl 1 rfl) ?_
                refine va_get (D := D) (ci := 1) (v := .ref (ad 13)) (C := RX1) (T := TX1) (N := 8) hx hb hts k_1 hown hK.1 hg.1 2 rfl rfl 6 (by decide) k_5 (fun _ h9 => h9) rfl dX1_measure_101 ?_
                refine lv_aload_n hx hb dX1_measure_104 rfl (lv_at hl 1 rfl) ?_
                refine va_get (D := D) (ci := 1) (v := .ref (ad 8)) (C := RX1) (T := TX1) (N := 8) hx hb hts k_1 hown hK.1 hg.1 2 rfl rfl 1 (by decide) k_6 (fun _ h9 => h9) rfl dX1_measure_105 ?_
                refine lv_iload hx hb dX1_measure_108 (lv_at hl 5 rfl) ?_
                obtain ⟨v29, i30, e31, h⟩ := fl_rd_b h
                refine g_ld (n := 40) (t0 := 5) hx hb hK hg (wc_a5 ad cz _) rfl i30 e31 dX1_measure_110 ?_
                obtain ⟨v32, i33, e34, h⟩ := fl_rd_b h
                refine g_ld (n := 8) (t0 := 10) hx hb hK hg (wc_a10 ad cz _) rfl i33 e34 dX1_measure_111 ?_
                refine lv_aload_n hx hb dX1_measure_112 rfl (lv_at hl 1 rfl) ?_
                refine va_get (D := D) (ci := 1) (v := .ref (ad 10)) (C := RX1) (T := TX1) (N := 8) hx hb hts k_1 hown hK.1 hg.1 2 rfl rfl 3 (by decide) k_9 (fun _ h9 => h9) rfl dX1_measure_113 ?_
                refine lv_iload hx hb dX1_measure_116 (lv_at hl 5 rfl) ?_
                obtain ⟨v35, i36, e37, h⟩ := fl_rd_b h
                refine g_ld (n := 40) (t0 := 7) hx hb hK hg (wc_a7 ad cz _) rfl i36 e37 dX1_measure_118 ?_
                refine lv_iadd hx hb dX1_measure_119 ?_
                obtain ⟨σ38, i39, e40, h⟩ := fl_wr_b h
                refine g_st (n := 8) (t0 := 10) hx hb hK hg (wc_a10 ad cz _) (wc_s10 ad cz _) rfl i39 e40 dX1_measure_120 (fun H locs hg => ?_)
                refine lv_aload_n hx hb dX1_measure_121 rfl (lv_at hl 1 rfl) ?_
                refine va_get (D := D) (ci := 1) (v := .ref (ad 14)) (C := RX1) (T := TX1) (N := 8) hx hb hts k_1 hown hK.1 hg.1 2 rfl rfl 7 (by decide) k_10 (fun _ h9 => h9) rfl dX1_measure_122 ?_
                refine lv_aload_n hx hb dX1_measure_125 rfl (lv_at hl 1 rfl) ?_
                refine va_get (D := D) (ci := 1) (v := .ref (ad 9)) (C := RX1) (T := TX1) (N := 8) hx hb hts k_1 hown hK.1 hg.1 2 rfl rfl 2 (by decide) k_8 (fun _ h9 => h9) rfl dX1_measure_126 ?_
                refine lv_iload hx hb dX1_measure_129 (lv_at hl 5 rfl) ?_
                obtain ⟨v41, i42, e43, h⟩ := fl_rd_b h
                refine g_ld (n := 40) (t0 := 6) hx hb hK hg (wc_a6 ad cz _) rfl i42 e43 dX1_measure_131 ?_
                refine lv_iload hx hb dX1_measure_132 (lv_at hl 5 rfl) ?_
                obtain ⟨σ44, i45, e46, h⟩ := fl_wr_b h
                refine g_st (n := 8) (t0 := 11) hx hb hK hg (wc_a11 ad cz _) (wc_s11 ad cz _) rfl i45 e46 dX1_measure_134 (fun H locs hg => ?_)
                refine lv_iconst (v := (1)) hx hb dX1_measure_135 (by decide) ?_
                refine lv_istore_n (lv' := [(2, .int (1)), (5, .int t8), (0, .ref (ad 2)), (1, .int x1), (3, .int x3), (4, .int x4)]) hx hb dX1_measure_136 rfl hl (by decide) rfl (fun ls hl => ?_)
                obtain ⟨rfl, rfl⟩ := fl_s2 h
                exact J14 H locs ls hg (lv_sub hl [2, 3, 0, 4, 5] rfl)
        clear h
        have h := hB10
        refine lv_if_le (tgt := 55) hx hb dX1_measure_40 (by decide) (fun c7 => ?_) (fun c7 => ?_)
        · have h := fl_ifp c7 h
          refine lv_iconst (v := (0)) hx hb dX1_measure_55 (by decide) ?_
          obtain rfl := fl_s1 h
          exact J9 H locs ls hg (lv_sub hl [0, 1, 2, 3, 4] rfl)
        · have h := fl_ifn c7 h
          refine lv_iload hx hb dX1_measure_43 (lv_at hl 4 rfl) ?_
          refine lv_iconst (v := (1)) hx hb dX1_measure_45 (by decide) ?_
          refine lv_ishr hx hb dX1_measure_46 ?_
          refine lv_iload_n hx hb dX1_measure_47 rfl (lv_at hl 1 rfl) ?_
          refine lv_icmp_eq (tgt := 55) hx hb dX1_measure_48 (by decide) (fun c47 => ?_) (fun c47 => ?_)
          · have h := fl_ifp c47 h
            refine lv_iconst (v := (0)) hx hb dX1_measure_55 (by decide) ?_
            obtain rfl := fl_s1 h
            exact J9 H locs ls hg (lv_sub hl [0, 1, 2, 3, 4] rfl)
          · have h := fl_ifn c47 h
            refine lv_iconst (v := (1)) hx hb dX1_measure_51 (by decide) ?_
            refine lv_goto (tgt := 56) hx hb dX1_measure_52 (by decide) ?_
            obtain rfl := fl_s1 h
            exact J9 H locs ls hg (lv_sub hl [0, 1, 2, 3, 4] rfl)
  have L4 : ∀ (n : Nat) (x1 : Int32) (x2 : Int32) (x3 : Int32) (σ : fl_St) (σo : fl_St) (H : Heap) (locs : List Loc) (ls : Array Slot), f_X1_measure_l4 x1 n x2 x3 σ = some (σo) → gS D (wc ad cz) A s.heap σ H locs → lv_has ls 6 [(0, .ref (ad 2)), (1, .int x1), (2, .int x2), (3, .int x3)] → (∀ (H : Heap) (locs : List Loc) (ls : Array Slot), gS D (wc ad cz) A s.heap σo H locs → lv_has ls 6 [] → W p l e rm_X1_measure s m args below meth c H locs 0 0 Q (F0 m 149 ls [])) → W p l e rm_X1_measure s m args below meth c H locs 0 0 Q (F0 m 4 ls []) := by
    intro n
    induction n with
    | zero =>
      intro x1 x2 x3 σ σo H locs ls h hg hl kk0
      rw [f_X1_measure_l4] at h
      cases h
    | succ n ih =>
      intro x1 x2 x3 σ σo H locs ls h hg hl kk0
      rw [f_X1_measure_l4] at h
      refine lv_iload_n hx hb dX1_measure_4 rfl (lv_at hl 2 rfl) ?_
      refine lv_if_eq (tgt := 149) hx hb dX1_measure_5 (by decide) (fun c1 => ?_) (fun c1 => ?_)
      · have h := fl_ifp c1 h
        obtain rfl := fl_s1 h
        exact kk0 H locs ls hg (lv_sub hl [] rfl)
      · have h := fl_ifn c1 h
        refine lv_iload_n hx hb dX1_measure_8 rfl (lv_at hl 3 rfl) ?_
        refine lv_bipush (v := (8)) hx hb dX1_measure_9 (by decide) ?_
        refine lv_icmp_ge (tgt := 149) hx hb dX1_measure_11 (by decide) (fun c2 => ?_) (fun c2 => ?_)
        · have h := fl_ifp c2 h
          obtain rfl := fl_s1 h
          exact kk0 H locs ls hg (lv_sub hl [] rfl)
        · have h := fl_ifn c2 h
          refine lv_iconst (v := (0)) hx hb dX1_measure_14 (by decide) ?_
          refine lv_istore_n (lv' := [(2, .int (0)), (0, .ref (ad 2)), (1, .int x1), (3, .int x3)]) hx hb dX1_measure_15 rfl hl (by decide) rfl (fun ls hl => ?_)
          refine lv_iconst (v := (0)) hx hb dX1_measure_16 (by decide) ?_
          refine lv_istore (lv' := [(4, .int (0)), (2, .int (0)), (0, .ref (ad 2)), (1, .int x1), (3, .int x3)]) hx hb dX1_measure_17 hl (by decide) rfl (fun ls hl => ?_)
          obtain ⟨w48, σ49, hB50, h⟩ := fl_b2_b h
          refine L19 fl_N _ _ _ _ _ _ _ H locs ls hB50 hg (lv_sub hl [2, 3, 1, 4, 0] rfl) (fun H locs ls hg hl => ?_)
          refine lv_iinc (v := (x3 + 1)) (lv' := [(3, .int (x3 + 1)), (0, .ref (ad 2)), (1, .int x1), (2, .int w48)]) hx hb dX1_measure_143 hl (k := 3) rfl rfl (by decide) rfl (fun ls hl => ?_)
          refine lv_goto (tgt := 4) hx hb dX1_measure_146 (by decide) ?_
          exact ih _ _ _ _ _ _ _ _ h hg (lv_sub hl [1, 2, 3, 0] rfl) kk0
  unfold f_X1_measure at h
  have W0 : ∀ (H : Heap) (locs : List Loc), gS D (wc ad cz) A s.heap σ H locs → W p l e rm_X1_measure s m args below meth c H locs 0 0 Q (F0 m 0 ls []) := by
    intro H locs hg
    refine lv_iconst (v := (1)) hx hb dX1_measure_0 (by decide) ?_
    refine lv_istore_n (lv' := [(2, .int (1)), (0, .ref (ad 2)), (1, .int x1)]) hx hb dX1_measure_1 rfl hl (by decide) rfl (fun ls hl => ?_)
    refine lv_iconst (v := (0)) hx hb dX1_measure_2 (by decide) ?_
    refine lv_istore_n (lv' := [(3, .int (0)), (2, .int (1)), (0, .ref (ad 2)), (1, .int x1)]) hx hb dX1_measure_3 rfl hl (by decide) rfl (fun ls hl => ?_)
    obtain ⟨σ51, hB52, h⟩ := fl_bnd h
    refine L4 fl_N _ _ _ _ _ H locs ls hB52 hg (lv_sub hl [2, 3, 1, 0] rfl) (fun H locs ls hg hl => ?_)
    exact hret _ _ _ _ _ h hg dX1_measure_149
  exact W0 _ _ hg
