def f_X2_sumAboveZero_l10 (fi : Nat) (x3 : Int32) (σ : fl_St) : Nat → Int32 → Int32 → Option (Int32)
  | 0, _, _ => none
  | n + 1, x1, x4 => if x3 ≤ x4 then (some (x1)) else ((fl_rd σ fi 8 x4).bind fun v2 => f_X2_sumAboveZero_l10 fi x3 σ n (x1 + (if (0) < v2 then v2 else (0))) (x4 + 1))
def f_X2_sumAboveZero (fi : Nat) (σ : fl_St) : Option (Int32) := (f_X2_sumAboveZero_l10 fi (8) σ fl_N (0) (0)).bind fun (w5 : Int32) => some w5
def rm_X2_sumAboveZero : Room := { frames := 1, cells := 0, slots := 0, locals := 21 }
set_option maxHeartbeats 4000000 in
set_option maxRecDepth 100000 in
theorem c_X2_sumAboveZero (l : Launch) (D : va_G) (ad : Nat → Nat) (cz : Nat → ClassId) {fi : Nat} (hfi : fi = 4 ∨ fi = 9) (σ : fl_St) {r : Int32} (h : f_X2_sumAboveZero fi σ = some r) : gMi l yX2_sumAboveZero wsX2_sumAboveZero rm_X2_sumAboveZero D (wc ad cz) (wcT cz) wcN [.ref (ad (fi + 3))] σ r σ := by
  refine gMi_of (cc := cX2_sumAboveZero) (maxL := 6) (by decide) rfl (Nat.le_of_ble_eq_true rfl) ?_
  intro p e s m args below meth c A Q ls hx hb hml hown hts hK hA hg hl hret
  have hown : s.vm.findClass RX2 = some m.cls := hown
  have hl : lv_has ls 6 [(0, .ref (ad (fi + 3)))] := hl
  have k_0 := hts (.methodLink RX2 109 Lib.Math.max.name) (by decide +kernel)
  have k_1 := hts (.static Lib.Math.max.name) (by decide +kernel)
  have k_2 := hts (.initialized "java/lang/Math") (by decide +kernel)
  have k_3 := hts (.code Lib.Math.max.name Lib.Math.max.code 2 (some .int)) (by decide +kernel)
  have L10 : ∀ (n : Nat) (x3 : Int32) (σ : fl_St) (x1 : Int32) (x4 : Int32) (o1 : Int32) (H : Heap) (locs : List Loc) (ls : Array Slot), f_X2_sumAboveZero_l10 fi x3 σ n x1 x4 = some (o1) → gS D (wc ad cz) A s.heap σ H locs → lv_has ls 6 [(1, .int x1), (2, .ref (ad (fi + 3))), (3, .int x3), (4, .int x4)] → (∀ (H : Heap) (locs : List Loc) (ls : Array Slot), gS D (wc ad cz) A s.heap σ H locs → lv_has ls 6 [(1, .int o1)] → W p l e rm_X2_sumAboveZero s m args below meth c H locs 0 0 Q (F0 m 37 ls [])) → W p l e rm_X2_sumAboveZero s m args below meth c H locs 0 0 Q (F0 m 10 ls []) := by
    intro n
    induction n with
    | zero =>
      intro x3 σ x1 x4 o1 H locs ls h hg hl kk0
      rw [f_X2_sumAboveZero_l10] at h
      cases h
    | succ n ih =>
      intro x3 σ x1 x4 o1 H locs ls h hg hl kk0
      rw [f_X2_sumAboveZero_l10] at h
      refine lv_iload hx hb dX2_sumAboveZero_10 (lv_at hl 3 rfl) ?_
      refine lv_iload_n hx hb dX2_sumAboveZero_12 rfl (lv_at hl 2 rfl) ?_
      refine lv_icmp_ge (tgt := 37) hx hb dX2_sumAboveZero_13 (by decide) (fun c1 => ?_) (fun c1 => ?_)
      · have h := fl_ifp c1 h
        obtain rfl := fl_s1 h
        exact kk0 H locs ls hg (lv_sub hl [0] rfl)
      · have h := fl_ifn c1 h
        refine lv_aload_n hx hb dX2_sumAboveZero_16 rfl (lv_at hl 1 rfl) ?_
        refine lv_iload hx hb dX2_sumAboveZero_17 (lv_at hl 3 rfl) ?_
        obtain ⟨v2, i3, e4, h⟩ := fl_rd_b h
        refine g_ld (n := 8) (t0 := fi) hx hb hK hg (wc_af hfi ad cz _) (wc_tf hfi cz) i3 e4 dX2_sumAboveZero_19 ?_
        refine lv_istore (lv' := [(5, .int v2), (1, .int x1), (2, .ref (ad (fi + 3))), (3, .int x3), (4, .int x4)]) hx hb dX2_sumAboveZero_20 hl (by decide) rfl (fun ls hl => ?_)
        refine lv_iload_n hx hb dX2_sumAboveZero_22 rfl (lv_at hl 1 rfl) ?_
        refine lv_iconst (v := (0)) hx hb dX2_sumAboveZero_23 (by decide) ?_
        refine lv_iload hx hb dX2_sumAboveZero_24 (lv_at hl 0 rfl) ?_
        refine va_mmax (rest := [.int x1]) hx hb (hml.trans hl.1.symm) hown k_0 k_1 k_2 k_3 (Nat.le_of_ble_eq_true rfl) (Nat.le_of_ble_eq_true rfl) (Nat.le_of_ble_eq_true rfl) (Nat.le_of_ble_eq_true rfl) dX2_sumAboveZero_26 ?_
        refine lv_iadd hx hb dX2_sumAboveZero_29 ?_
        refine lv_istore_n (lv' := [(1, .int (x1 + (if (0) < v2 then v2 else (0)))), (5, .int v2), (2, .ref (ad (fi + 3))), (3, .int x3), (4, .int x4)]) hx hb dX2_sumAboveZero_30 rfl hl (by decide) rfl (fun ls hl => ?_)
        refine lv_iinc (v := (x4 + 1)) (lv' := [(4, .int (x4 + 1)), (1, .int (x1 + (if (0) < v2 then v2 else (0)))), (5, .int v2), (2, .ref (ad (fi + 3))), (3, .int x3)]) hx hb dX2_sumAboveZero_31 hl (k := 4) rfl rfl (by decide) rfl (fun ls hl => ?_)
        refine lv_goto (tgt := 10) hx hb dX2_sumAboveZero_34 (by decide) ?_
        exact ih _ _ _ _ _ _ _ _ h hg (lv_sub hl [1, 3, 4, 0] rfl) kk0
  unfold f_X2_sumAboveZero at h
  have W0 : ∀ (H : Heap) (locs : List Loc), gS D (wc ad cz) A s.heap σ H locs → W p l e rm_X2_sumAboveZero s m args below meth c H locs 0 0 Q (F0 m 0 ls []) := by
    intro H locs hg
    refine lv_iconst (v := (0)) hx hb dX2_sumAboveZero_0 (by decide) ?_
    refine lv_istore_n (lv' := [(1, .int (0)), (0, .ref (ad (fi + 3)))]) hx hb dX2_sumAboveZero_1 rfl hl (by decide) rfl (fun ls hl => ?_)
    refine lv_aload_n hx hb dX2_sumAboveZero_2 rfl (lv_at hl 1 rfl) ?_
    refine lv_astore_n (lv' := [(2, .ref (ad (fi + 3))), (1, .int (0)), (0, .ref (ad (fi + 3)))]) hx hb dX2_sumAboveZero_3 rfl hl (by decide) rfl (fun ls hl => ?_)
    refine lv_aload_n hx hb dX2_sumAboveZero_4 rfl (lv_at hl 0 rfl) ?_
    refine va_alen (v := (8)) hx hb hK.1 hg.1 (fi + 3) (fi) (wc_af hfi ad cz _) (ty := .int) (wc_tf hfi cz) rfl dX2_sumAboveZero_5 ?_
    refine lv_istore_n (lv' := [(3, .int (8)), (2, .ref (ad (fi + 3))), (1, .int (0)), (0, .ref (ad (fi + 3)))]) hx hb dX2_sumAboveZero_6 rfl hl (by decide) rfl (fun ls hl => ?_)
    refine lv_iconst (v := (0)) hx hb dX2_sumAboveZero_7 (by decide) ?_
    refine lv_istore (lv' := [(4, .int (0)), (3, .int (8)), (2, .ref (ad (fi + 3))), (1, .int (0)), (0, .ref (ad (fi + 3)))]) hx hb dX2_sumAboveZero_8 hl (by decide) rfl (fun ls hl => ?_)
    obtain ⟨w5, hB6, h⟩ := fl_bnd h
    refine L10 fl_N _ _ _ _ _ H locs ls hB6 hg (lv_sub hl [3, 2, 1, 0] rfl) (fun H locs ls hg hl => ?_)
    refine lv_iload_n hx hb dX2_sumAboveZero_37 rfl (lv_at hl 0 rfl) ?_
    exact hret _ _ _ _ _ _ (congrArg (Option.map (fun q => (q, σ))) h) hg rfl dX2_sumAboveZero_38
  exact W0 _ _ hg
def f_X0_totalSupply (σ : fl_St) : Option (Int32) := (f_X2_sumAboveZero 4 σ).bind fun r2 => some r2
def rm_X0_totalSupply : Room := { frames := 2, cells := 0, slots := 0, locals := 46 }
set_option maxHeartbeats 4000000 in
set_option maxRecDepth 100000 in
theorem c_X0_totalSupply (l : Launch) (D : va_G) (ad : Nat → Nat) (cz : Nat → ClassId) (σ : fl_St) {r : Int32} (h : f_X0_totalSupply σ = some r) : gMi l yX0_totalSupply wsX0_totalSupply rm_X0_totalSupply D (wc ad cz) (wcT cz) wcN [.ref (ad 1)] σ r σ := by
  refine gMi_of (cc := cX0_totalSupply) (maxL := 1) (by decide) rfl (Nat.le_of_ble_eq_true rfl) ?_
  intro p e s m args below meth c A Q ls hx hb hml hown hts hK hA hg hl hret
  have hown : s.vm.findClass RX0 = some m.cls := hown
  have hl : lv_has ls 1 [(0, .ref (ad 1))] := hl
  have k_0 := hts (.fieldLink RX0 24 "FlowLedger$Network" "supply" "[I") (by decide +kernel)
  have k_1 := (by decide +kernel : ∀ w ∈ wsX00, w ∈ wsX0_totalSupply)
  have k_2 := hts (.initialized RX2) (by decide +kernel)
  have k_3 := hts (.static yX2_sumAboveZero) (by decide +kernel)
  unfold f_X0_totalSupply at h
  have W0 : ∀ (H : Heap) (locs : List Loc), gS D (wc ad cz) A s.heap σ H locs → W p l e rm_X0_totalSupply s m args below meth c H locs 0 0 Q (F0 m 0 ls []) := by
    intro H locs hg
    refine lv_aload_n hx hb dX0_totalSupply_0 rfl (lv_at hl 0 rfl) ?_
    refine va_get (D := D) (ci := 0) (v := .ref (ad 7)) (C := RX0) (T := TX0) (N := 6) hx hb hts k_1 hown hK.1 hg.1 1 rfl rfl 4 (by decide) k_0 (fun _ h9 => h9) rfl dX0_totalSupply_1 ?_
    obtain ⟨r2, e1, h⟩ := fl_bnd h
    refine g_callNi (As := [.ref (ad 7)]) (rest := []) (host := RX2) ⟨hx, hb, hml, hown, hts⟩ (c_X2_sumAboveZero l D ad cz (Or.inl rfl) (σ) e1) ⟨va_cnB 1 hts gX0_totalSupply_X2_sumAboveZero_n27 rfl rfl rfl (hK.2 (RX0, 27, yX2_sumAboveZero, RX2) (by simp [wcN])) k_2 (by decide +kernel) ⟨Nat.le_of_ble_eq_true rfl, Nat.le_of_ble_eq_true rfl⟩, k_3, trivial⟩ hK hA hg rfl hl.1 rfl (Nat.le_of_ble_eq_true rfl) dX0_totalSupply_4 ⟨Nat.le_of_ble_eq_true rfl, Nat.le_of_ble_eq_true rfl⟩ (fun H locs hg => ?_)
    exact hret _ _ _ _ _ _ (congrArg (Option.map (fun q => (q, σ))) h) hg rfl dX0_totalSupply_7
  exact W0 _ _ hg
def f_X2_isNode (x0 : Int32) (σ : fl_St) : Option (Int32) := (if x0 < 0 then (some ((0))) else (if (8) ≤ x0 then (some ((0))) else (some ((1))))).bind fun (t2 : Int32) => if ¬ (t2 = 0 ∨ t2 = 1) then none else some t2
def rm_X2_isNode : Room := { frames := 0, cells := 0, slots := 0, locals := 0 }
set_option maxHeartbeats 4000000 in
set_option maxRecDepth 100000 in
theorem c_X2_isNode (l : Launch) (D : va_G) (ad : Nat → Nat) (cz : Nat → ClassId) (x0 : Int32) (σ : fl_St) {r : Int32} (h : f_X2_isNode x0 σ = some r) : gMi l yX2_isNode wsX2_isNode rm_X2_isNode D (wc ad cz) (wcT cz) wcN [.int x0] σ r σ := by
  refine gMi_of (cc := cX2_isNode) (maxL := 1) (by decide) rfl (Nat.le_of_ble_eq_true rfl) ?_
  intro p e s m args below meth c A Q ls hx hb hml hown hts hK hA hg hl hret
  have hown : s.vm.findClass RX2 = some m.cls := hown
  have hl : lv_has ls 1 [(0, .int x0)] := hl
  unfold f_X2_isNode at h
  have W0 : ∀ (H : Heap) (locs : List Loc), gS D (wc ad cz) A s.heap σ H locs → W p l e rm_X2_isNode s m args below meth c H locs 0 0 Q (F0 m 0 ls []) := by
    intro H locs hg
    refine lv_iload_n hx hb dX2_isNode_0 rfl (lv_at hl 0 rfl) ?_
    obtain ⟨t2, hB4, h⟩ := fl_bnd h
    have J3 : ∀ (H : Heap) (locs : List Loc) (ls : Array Slot), gS D (wc ad cz) A s.heap σ H locs → lv_has ls 1 [] → W p l e rm_X2_isNode s m args below meth c H locs 0 0 Q (F0 m 15 ls [.int t2]) := by
      intro H locs ls hg hl
      obtain ⟨z5, h⟩ := fl_bool h
      exact hret _ _ _ _ _ _ (congrArg (Option.map (fun q => (q, σ))) h) hg (fl_nar2 z5) dX2_isNode_15
    clear h
    have h := hB4
    refine lv_if_lt (tgt := 14) hx hb dX2_isNode_1 (by decide) (fun c1 => ?_) (fun c1 => ?_)
    · have h := fl_ifp c1 h
      refine lv_iconst (v := (0)) hx hb dX2_isNode_14 (by decide) ?_
      obtain rfl := fl_s1 h
      exact J3 H locs ls hg (lv_sub hl [] rfl)
    · have h := fl_ifn c1 h
      refine lv_iload_n hx hb dX2_isNode_4 rfl (lv_at hl 0 rfl) ?_
      refine lv_bipush (v := (8)) hx hb dX2_isNode_5 (by decide) ?_
      refine lv_icmp_ge (tgt := 14) hx hb dX2_isNode_7 (by decide) (fun c6 => ?_) (fun c6 => ?_)
      · have h := fl_ifp c6 h
        refine lv_iconst (v := (0)) hx hb dX2_isNode_14 (by decide) ?_
        obtain rfl := fl_s1 h
        exact J3 H locs ls hg (lv_sub hl [] rfl)
      · have h := fl_ifn c6 h
        refine lv_iconst (v := (1)) hx hb dX2_isNode_10 (by decide) ?_
        refine lv_goto (tgt := 15) hx hb dX2_isNode_11 (by decide) ?_
        obtain rfl := fl_s1 h
        exact J3 H locs ls hg (lv_sub hl [] rfl)
  exact W0 _ _ hg
def f_X2_isArcData (x0 : Int32) (x1 : Int32) (σ : fl_St) : Option (Int32) := (if x0 < (-1) then (some ((0))) else (if (30) < x0 then (some ((0))) else (if x1 < (-20) then (some ((0))) else (if (20) < x1 then (some ((0))) else (some ((1))))))).bind fun (t2 : Int32) => if ¬ (t2 = 0 ∨ t2 = 1) then none else some t2
def rm_X2_isArcData : Room := { frames := 0, cells := 0, slots := 0, locals := 0 }
set_option maxHeartbeats 4000000 in
set_option maxRecDepth 100000 in
theorem c_X2_isArcData (l : Launch) (D : va_G) (ad : Nat → Nat) (cz : Nat → ClassId) (x0 : Int32) (x1 : Int32) (σ : fl_St) {r : Int32} (h : f_X2_isArcData x0 x1 σ = some r) : gMi l yX2_isArcData wsX2_isArcData rm_X2_isArcData D (wc ad cz) (wcT cz) wcN [.int x0, .int x1] σ r σ := by
  refine gMi_of (cc := cX2_isArcData) (maxL := 2) (by decide) rfl (Nat.le_of_ble_eq_true rfl) ?_
  intro p e s m args below meth c A Q ls hx hb hml hown hts hK hA hg hl hret
  have hown : s.vm.findClass RX2 = some m.cls := hown
  have hl : lv_has ls 2 [(0, .int x0), (1, .int x1)] := hl
  unfold f_X2_isArcData at h
  have W0 : ∀ (H : Heap) (locs : List Loc), gS D (wc ad cz) A s.heap σ H locs → W p l e rm_X2_isArcData s m args below meth c H locs 0 0 Q (F0 m 0 ls []) := by
    intro H locs hg
    refine lv_iload_n hx hb dX2_isArcData_0 rfl (lv_at hl 0 rfl) ?_
    refine lv_iconst (v := (-1)) hx hb dX2_isArcData_1 (by decide) ?_
    obtain ⟨t2, hB4, h⟩ := fl_bnd h
    have J3 : ∀ (H : Heap) (locs : List Loc) (ls : Array Slot), gS D (wc ad cz) A s.heap σ H locs → lv_has ls 2 [] → W p l e rm_X2_isArcData s m args below meth c H locs 0 0 Q (F0 m 28 ls [.int t2]) := by
      intro H locs ls hg hl
      obtain ⟨z5, h⟩ := fl_bool h
      exact hret _ _ _ _ _ _ (congrArg (Option.map (fun q => (q, σ))) h) hg (fl_nar2 z5) dX2_isArcData_28
    clear h
    have h := hB4
    refine lv_icmp_lt (tgt := 27) hx hb dX2_isArcData_2 (by decide) (fun c1 => ?_) (fun c1 => ?_)
    · have h := fl_ifp c1 h
      refine lv_iconst (v := (0)) hx hb dX2_isArcData_27 (by decide) ?_
      obtain rfl := fl_s1 h
      exact J3 H locs ls hg (lv_sub hl [] rfl)
    · have h := fl_ifn c1 h
      refine lv_iload_n hx hb dX2_isArcData_5 rfl (lv_at hl 0 rfl) ?_
      refine lv_bipush (v := (30)) hx hb dX2_isArcData_6 (by decide) ?_
      refine lv_icmp_gt (tgt := 27) hx hb dX2_isArcData_8 (by decide) (fun c6 => ?_) (fun c6 => ?_)
      · have h := fl_ifp c6 h
        refine lv_iconst (v := (0)) hx hb dX2_isArcData_27 (by decide) ?_
        obtain rfl := fl_s1 h
        exact J3 H locs ls hg (lv_sub hl [] rfl)
      · have h := fl_ifn c6 h
        refine lv_iload_n hx hb dX2_isArcData_11 rfl (lv_at hl 1 rfl) ?_
        refine lv_bipush (v := (-20)) hx hb dX2_isArcData_12 (by decide) ?_
        refine lv_icmp_lt (tgt := 27) hx hb dX2_isArcData_14 (by decide) (fun c7 => ?_) (fun c7 => ?_)
        · have h := fl_ifp c7 h
          refine lv_iconst (v := (0)) hx hb dX2_isArcData_27 (by decide) ?_
          obtain rfl := fl_s1 h
          exact J3 H locs ls hg (lv_sub hl [] rfl)
        · have h := fl_ifn c7 h
          refine lv_iload_n hx hb dX2_isArcData_17 rfl (lv_at hl 1 rfl) ?_
          refine lv_bipush (v := (20)) hx hb dX2_isArcData_18 (by decide) ?_
          refine lv_icmp_gt (tgt := 27) hx hb dX2_isArcData_20 (by decide) (fun c8 => ?_) (fun c8 => ?_)
          · have h := fl_ifp c8 h
            refine lv_iconst (v := (0)) hx hb dX2_isArcData_27 (by decide) ?_
            obtain rfl := fl_s1 h
            exact J3 H locs ls hg (lv_sub hl [] rfl)
          · have h := fl_ifn c8 h
            refine lv_iconst (v := (1)) hx hb dX2_isArcData_23 (by decide) ?_
            refine lv_goto (tgt := 28) hx hb dX2_isArcData_24 (by decide) ?_
            obtain rfl := fl_s1 h
            exact J3 H locs ls hg (lv_sub hl [] rfl)
  exact W0 _ _ hg
def f_X2_isArc (x1 : Int32) (σ : fl_St) : Option (Int32) := (if x1 < 0 then (some ((0))) else (if (σ 12 0) ≤ x1 then (some ((0))) else (some ((1))))).bind fun (t2 : Int32) => if ¬ (t2 = 0 ∨ t2 = 1) then none else some t2
def rm_X2_isArc : Room := { frames := 0, cells := 0, slots := 0, locals := 0 }
set_option maxHeartbeats 4000000 in
set_option maxRecDepth 100000 in
theorem c_X2_isArc (l : Launch) (D : va_G) (ad : Nat → Nat) (cz : Nat → ClassId) (x1 : Int32) (σ : fl_St) {r : Int32} (h : f_X2_isArc x1 σ = some r) : gMi l yX2_isArc wsX2_isArc rm_X2_isArc D (wc ad cz) (wcT cz) wcN [.ref (ad 0), .int x1] σ r σ := by
  refine gMi_of (cc := cX2_isArc) (maxL := 2) (by decide) rfl (Nat.le_of_ble_eq_true rfl) ?_
  intro p e s m args below meth c A Q ls hx hb hml hown hts hK hA hg hl hret
  have hown : s.vm.findClass RX2 = some m.cls := hown
  have hl : lv_has ls 2 [(0, .ref (ad 0)), (1, .int x1)] := hl
  have k_0 := hts (.fieldLink RX2 20 "FlowLedger" "network" "LFlowLedger$Network;") (by decide +kernel)
  have k_1 := (by decide +kernel : ∀ w ∈ wsX20, w ∈ wsX2_isArc)
  have k_2 := hts (.fieldLink RX2 30 "FlowLedger$Network" "count" "I") (by decide +kernel)
  have k_3 := (by decide +kernel : ∀ w ∈ wsX00, w ∈ wsX2_isArc)
  unfold f_X2_isArc at h
  have W0 : ∀ (H : Heap) (locs : List Loc), gS D (wc ad cz) A s.heap σ H locs → W p l e rm_X2_isArc s m args below meth c H locs 0 0 Q (F0 m 0 ls []) := by
    intro H locs hg
    refine lv_iload_n hx hb dX2_isArc_0 rfl (lv_at hl 1 rfl) ?_
    obtain ⟨t2, hB4, h⟩ := fl_bnd h
    have J3 : ∀ (H : Heap) (locs : List Loc) (ls : Array Slot), gS D (wc ad cz) A s.heap σ H locs → lv_has ls 2 [] → W p l e rm_X2_isArc s m args below meth c H locs 0 0 Q (F0 m 20 ls [.int t2]) := by
      intro H locs ls hg hl
      obtain ⟨z5, h⟩ := fl_bool h
      exact hret _ _ _ _ _ _ (congrArg (Option.map (fun q => (q, σ))) h) hg (fl_nar2 z5) dX2_isArc_20
    clear h
    have h := hB4
    refine lv_if_lt (tgt := 19) hx hb dX2_isArc_1 (by decide) (fun c1 => ?_) (fun c1 => ?_)
    · have h := fl_ifp c1 h
      refine lv_iconst (v := (0)) hx hb dX2_isArc_19 (by decide) ?_
      obtain rfl := fl_s1 h
      exact J3 H locs ls hg (lv_sub hl [] rfl)
    · have h := fl_ifn c1 h
      refine lv_iload_n hx hb dX2_isArc_4 rfl (lv_at hl 1 rfl) ?_
      refine lv_aload_n hx hb dX2_isArc_5 rfl (lv_at hl 0 rfl) ?_
      refine va_get (D := D) (ci := 2) (v := .ref (ad 1)) (C := RX2) (T := TX2) (N := 2) hx hb hts k_1 hown hK.1 hg.1 0 rfl rfl 1 (by decide) k_0 (fun _ h9 => h9) rfl dX2_isArc_6 ?_
      refine va_get (D := D) (ci := 0) (v := .int (σ 12 0)) (C := RX0) (T := TX0) (N := 6) hx hb hts k_3 hown hK.1 hg.1 1 rfl rfl 5 (by decide) k_2 (fun _ h9 => h9) rfl dX2_isArc_9 ?_
      refine lv_icmp_ge (tgt := 19) hx hb dX2_isArc_12 (by decide) (fun c6 => ?_) (fun c6 => ?_)
      · have h := fl_ifp c6 h
        refine lv_iconst (v := (0)) hx hb dX2_isArc_19 (by decide) ?_
        obtain rfl := fl_s1 h
        exact J3 H locs ls hg (lv_sub hl [] rfl)
      · have h := fl_ifn c6 h
        refine lv_iconst (v := (1)) hx hb dX2_isArc_15 (by decide) ?_
        refine lv_goto (tgt := 20) hx hb dX2_isArc_16 (by decide) ?_
        obtain rfl := fl_s1 h
        exact J3 H locs ls hg (lv_sub hl [] rfl)
  exact W0 _ _ hg
def f_X2_add (x1 : Int32) (x2 : Int32) (x3 : Int32) (x4 : Int32) (σ : fl_St) : Option (Int32 × fl_St) := (f_X2_isNode x1 σ).bind fun r2 => if r2 = 0 then (some ((-1000000), σ)) else ((f_X2_isNode x2 σ).bind fun r5 => if r5 = 0 then (some ((-1000000), σ)) else (if x1 = x2 then (some ((-1000000), σ)) else ((f_X2_isArcData x3 x4 σ).bind fun r9 => if r9 = 0 then (some ((-1000000), σ)) else (if (σ 12 0) < (20) then ((fl_wr σ 0 20 (σ 12 0) x1).bind fun σ12 => (fl_wr σ12 1 20 (σ 12 0) x2).bind fun σ15 => (fl_wr σ15 2 20 (σ 12 0) x3).bind fun σ18 => (fl_wr σ18 3 20 (σ 12 0) x4).bind fun σ21 => (some (st σ21 12 0 ((σ21 12 0) + (1)))).bind fun σ24 => some ((σ 12 0), σ24)) else (some ((-1000001), σ))))))
def rm_X2_add : Room := { frames := 1, cells := 0, slots := 0, locals := 21 }
set_option maxHeartbeats 4000000 in
set_option maxRecDepth 100000 in
theorem c_X2_add (l : Launch) (D : va_G) (ad : Nat → Nat) (cz : Nat → ClassId) (x1 : Int32) (x2 : Int32) (x3 : Int32) (x4 : Int32) (σ : fl_St) {r : Int32} {σ' : fl_St} (h : f_X2_add x1 x2 x3 x4 σ = some (r, σ')) : gMi l yX2_add wsX2_add rm_X2_add D (wc ad cz) (wcT cz) wcN [.ref (ad 0), .int x1, .int x2, .int x3, .int x4] σ r σ' := by
  refine gMi_of (cc := cX2_add) (maxL := 6) (by decide) rfl (Nat.le_of_ble_eq_true rfl) ?_
  intro p e s m args below meth c A Q ls hx hb hml hown hts hK hA hg hl hret
  have hown : s.vm.findClass RX2 = some m.cls := hown
  have hl : lv_has ls 6 [(0, .ref (ad 0)), (1, .int x1), (2, .int x2), (3, .int x3), (4, .int x4)] := hl
  have k_0 := hts (.constant RX2 29 (-1000000)) (by decide +kernel)
  have k_1 := hts (.fieldLink RX2 20 "FlowLedger" "network" "LFlowLedger$Network;") (by decide +kernel)
  have k_2 := (by decide +kernel : ∀ w ∈ wsX20, w ∈ wsX2_add)
  have k_3 := hts (.fieldLink RX2 30 "FlowLedger$Network" "count" "I") (by decide +kernel)
  have k_4 := (by decide +kernel : ∀ w ∈ wsX00, w ∈ wsX2_add)
  have k_5 := hts (.fieldLink RX2 37 "FlowLedger$Network" "from" "[I") (by decide +kernel)
  have k_6 := hts (.fieldLink RX2 41 "FlowLedger$Network" "to" "[I") (by decide +kernel)
  have k_7 := hts (.fieldLink RX2 44 "FlowLedger$Network" "capacity" "[I") (by decide +kernel)
  have k_8 := hts (.fieldLink RX2 47 "FlowLedger$Network" "cost" "[I") (by decide +kernel)
  have k_9 := hts (.constant RX2 36 (-1000001)) (by decide +kernel)
  unfold f_X2_add at h
  have W0 : ∀ (H : Heap) (locs : List Loc), gS D (wc ad cz) A s.heap σ H locs → W p l e rm_X2_add s m args below meth c H locs 0 0 Q (F0 m 0 ls []) := by
    intro H locs hg
    refine lv_iload_n hx hb dX2_add_0 rfl (lv_at hl 1 rfl) ?_
    obtain ⟨r2, e1, h⟩ := fl_bnd h
    refine g_callSi (As := [.int x1]) (rest := []) ⟨hx, hb, hml, hown, hts⟩ (c_X2_isNode l D ad cz (x1) (σ) e1) (cwS 1 hts gX2_add_X2_isNode rfl rfl rfl (by decide +kernel) ⟨Nat.le_of_ble_eq_true rfl, Nat.le_of_ble_eq_true rfl⟩) hK hA hg rfl hl.1 rfl (Nat.le_of_ble_eq_true rfl) dX2_add_1 ⟨Nat.le_of_ble_eq_true rfl, Nat.le_of_ble_eq_true rfl⟩ (fun H locs hg => ?_)
    refine lv_if_eq (tgt := 28) hx hb dX2_add_4 (by decide) (fun c3 => ?_) (fun c3 => ?_)
    · have h := fl_ifp c3 h
      refine lv_ldc hx hb hown k_0 dX2_add_28 ?_
      exact hret _ _ _ _ _ _ h hg rfl dX2_add_30
    · have h := fl_ifn c3 h
      refine lv_iload_n hx hb dX2_add_7 rfl (lv_at hl 2 rfl) ?_
      obtain ⟨r5, e4, h⟩ := fl_bnd h
      refine g_callSi (As := [.int x2]) (rest := []) ⟨hx, hb, hml, hown, hts⟩ (c_X2_isNode l D ad cz (x2) (σ) e4) (cwS 1 hts gX2_add_X2_isNode rfl rfl rfl (by decide +kernel) ⟨Nat.le_of_ble_eq_true rfl, Nat.le_of_ble_eq_true rfl⟩) hK hA hg rfl hl.1 rfl (Nat.le_of_ble_eq_true rfl) dX2_add_8 ⟨Nat.le_of_ble_eq_true rfl, Nat.le_of_ble_eq_true rfl⟩ (fun H locs hg => ?_)
      refine lv_if_eq (tgt := 28) hx hb dX2_add_11 (by decide) (fun c6 => ?_) (fun c6 => ?_)
      · have h := fl_ifp c6 h
        refine lv_ldc hx hb hown k_0 dX2_add_28 ?_
        exact hret _ _ _ _ _ _ h hg rfl dX2_add_30
      · have h := fl_ifn c6 h
        refine lv_iload_n hx hb dX2_add_14 rfl (lv_at hl 1 rfl) ?_
        refine lv_iload_n hx hb dX2_add_15 rfl (lv_at hl 2 rfl) ?_
        refine lv_icmp_eq (tgt := 28) hx hb dX2_add_16 (by decide) (fun c7 => ?_) (fun c7 => ?_)
        · have h := fl_ifp c7 h
          refine lv_ldc hx hb hown k_0 dX2_add_28 ?_
          exact hret _ _ _ _ _ _ h hg rfl dX2_add_30
        · have h := fl_ifn c7 h
          refine lv_iload_n hx hb dX2_add_19 rfl (lv_at hl 3 rfl) ?_
          refine lv_iload hx hb dX2_add_20 (lv_at hl 4 rfl) ?_
          obtain ⟨r9, e8, h⟩ := fl_bnd h
          refine g_callSi (As := [.int x3, .int x4]) (rest := []) ⟨hx, hb, hml, hown, hts⟩ (c_X2_isArcData l D ad cz (x3) (x4) (σ) e8) (cwS 2 hts gX2_add_X2_isArcData rfl rfl rfl (by decide +kernel) ⟨Nat.le_of_ble_eq_true rfl, Nat.le_of_ble_eq_true rfl⟩) hK hA hg rfl hl.1 rfl (Nat.le_of_ble_eq_true rfl) dX2_add_22 ⟨Nat.le_of_ble_eq_true rfl, Nat.le_of_ble_eq_true rfl⟩ (fun H locs hg => ?_)
          refine lv_if_ne (tgt := 31) hx hb dX2_add_25 (by decide) (fun c10 => ?_) (fun c10 => ?_)
          · have h := fl_ifn c10 h
            refine lv_aload_n hx hb dX2_add_31 rfl (lv_at hl 0 rfl) ?_
            refine va_get (D := D) (ci := 2) (v := .ref (ad 1)) (C := RX2) (T := TX2) (N := 2) hx hb hts k_2 hown hK.1 hg.1 0 rfl rfl 1 (by decide) k_1 (fun _ h9 => h9) rfl dX2_add_32 ?_
            refine va_get (D := D) (ci := 0) (v := .int (σ 12 0)) (C := RX0) (T := TX0) (N := 6) hx hb hts k_4 hown hK.1 hg.1 1 rfl rfl 5 (by decide) k_3 (fun _ h9 => h9) rfl dX2_add_35 ?_
            refine lv_bipush (v := (20)) hx hb dX2_add_38 (by decide) ?_
            refine lv_icmp_lt (tgt := 46) hx hb dX2_add_40 (by decide) (fun c11 => ?_) (fun c11 => ?_)
            · have h := fl_ifp c11 h
              refine lv_aload_n hx hb dX2_add_46 rfl (lv_at hl 0 rfl) ?_
              refine va_get (D := D) (ci := 2) (v := .ref (ad 1)) (C := RX2) (T := TX2) (N := 2) hx hb hts k_2 hown hK.1 hg.1 0 rfl rfl 1 (by decide) k_1 (fun _ h9 => h9) rfl dX2_add_47 ?_
              refine va_get (D := D) (ci := 0) (v := .int (σ 12 0)) (C := RX0) (T := TX0) (N := 6) hx hb hts k_4 hown hK.1 hg.1 1 rfl rfl 5 (by decide) k_3 (fun _ h9 => h9) rfl dX2_add_50 ?_
              refine lv_istore (lv' := [(5, .int (σ 12 0)), (0, .ref (ad 0)), (1, .int x1), (2, .int x2), (3, .int x3), (4, .int x4)]) hx hb dX2_add_53 hl (by decide) rfl (fun ls hl => ?_)
              refine lv_aload_n hx hb dX2_add_55 rfl (lv_at hl 1 rfl) ?_
              refine va_get (D := D) (ci := 2) (v := .ref (ad 1)) (C := RX2) (T := TX2) (N := 2) hx hb hts k_2 hown hK.1 hg.1 0 rfl rfl 1 (by decide) k_1 (fun _ h9 => h9) rfl dX2_add_56 ?_
              refine va_get (D := D) (ci := 0) (v := .ref (ad 3)) (C := RX0) (T := TX0) (N := 6) hx hb hts k_4 hown hK.1 hg.1 1 rfl rfl 0 (by decide) k_5 (fun _ h9 => h9) rfl dX2_add_59 ?_
              refine lv_iload hx hb dX2_add_62 (lv_at hl 0 rfl) ?_
              refine lv_iload_n hx hb dX2_add_64 rfl (lv_at hl 2 rfl) ?_
              obtain ⟨σ12, i13, e14, h⟩ := fl_wr_b h
              refine g_st (n := 20) (t0 := 0) hx hb hK hg (wc_a0 ad cz _) (wc_s0 ad cz _) rfl i13 e14 dX2_add_65 (fun H locs hg => ?_)
              refine lv_aload_n hx hb dX2_add_66 rfl (lv_at hl 1 rfl) ?_
              refine va_get (D := D) (ci := 2) (v := .ref (ad 1)) (C := RX2) (T := TX2) (N := 2) hx hb hts k_2 hown hK.1 hg.1 0 rfl rfl 1 (by decide) k_1 (fun _ h9 => h9) rfl dX2_add_67 ?_
              refine va_get (D := D) (ci := 0) (v := .ref (ad 4)) (C := RX0) (T := TX0) (N := 6) hx hb hts k_4 hown hK.1 hg.1 1 rfl rfl 1 (by decide) k_6 (fun _ h9 => h9) rfl dX2_add_70 ?_
              refine lv_iload hx hb dX2_add_73 (lv_at hl 0 rfl) ?_
              refine lv_iload_n hx hb dX2_add_75 rfl (lv_at hl 3 rfl) ?_
              obtain ⟨σ15, i16, e17, h⟩ := fl_wr_b h
              refine g_st (n := 20) (t0 := 1) hx hb hK hg (wc_a1 ad cz _) (wc_s1 ad cz _) rfl i16 e17 dX2_add_76 (fun H locs hg => ?_)
              refine lv_aload_n hx hb dX2_add_77 rfl (lv_at hl 1 rfl) ?_
              refine va_get (D := D) (ci := 2) (v := .ref (ad 1)) (C := RX2) (T := TX2) (N := 2) hx hb hts k_2 hown hK.1 hg.1 0 rfl rfl 1 (by decide) k_1 (fun _ h9 => h9) rfl dX2_add_78 ?_
              refine va_get (D := D) (ci := 0) (v := .ref (ad 5)) (C := RX0) (T := TX0) (N := 6) hx hb hts k_4 hown hK.1 hg.1 1 rfl rfl 2 (by decide) k_7 (fun _ h9 => h9) rfl dX2_add_81 ?_
              refine lv_iload hx hb dX2_add_84 (lv_at hl 0 rfl) ?_
              refine lv_iload_n hx hb dX2_add_86 rfl (lv_at hl 4 rfl) ?_
              obtain ⟨σ18, i19, e20, h⟩ := fl_wr_b h
              refine g_st (n := 20) (t0 := 2) hx hb hK hg (wc_a2 ad cz _) (wc_s2 ad cz _) rfl i19 e20 dX2_add_87 (fun H locs hg => ?_)
              refine lv_aload_n hx hb dX2_add_88 rfl (lv_at hl 1 rfl) ?_
              refine va_get (D := D) (ci := 2) (v := .ref (ad 1)) (C := RX2) (T := TX2) (N := 2) hx hb hts k_2 hown hK.1 hg.1 0 rfl rfl 1 (by decide) k_1 (fun _ h9 => h9) rfl dX2_add_89 ?_
              refine va_get (D := D) (ci := 0) (v := .ref (ad 6)) (C := RX0) (T := TX0) (N := 6) hx hb hts k_4 hown hK.1 hg.1 1 rfl rfl 3 (by decide) k_8 (fun _ h9 => h9) rfl dX2_add_92 ?_
              refine lv_iload hx hb dX2_add_95 (lv_at hl 0 rfl) ?_
              refine lv_iload hx hb dX2_add_97 (lv_at hl 5 rfl) ?_
              obtain ⟨σ21, i22, e23, h⟩ := fl_wr_b h
              refine g_st (n := 20) (t0 := 3) hx hb hK hg (wc_a3 ad cz _) (wc_s3 ad cz _) rfl i22 e23 dX2_add_99 (fun H locs hg => ?_)
              refine lv_aload_n hx hb dX2_add_100 rfl (lv_at hl 1 rfl) ?_
              refine va_get (D := D) (ci := 2) (v := .ref (ad 1)) (C := RX2) (T := TX2) (N := 2) hx hb hts k_2 hown hK.1 hg.1 0 rfl rfl 1 (by decide) k_1 (fun _ h9 => h9) rfl dX2_add_101 ?_
              refine lv_dup hx hb dX2_add_104 rfl ?_
              refine va_get (D := D) (ci := 0) (v := .int (σ21 12 0)) (C := RX0) (T := TX0) (N := 6) hx hb hts k_4 hown hK.1 hg.1 1 rfl rfl 5 (by decide) k_3 (fun _ h9 => h9) rfl dX2_add_105 ?_
              refine lv_iconst (v := (1)) hx hb dX2_add_108 (by decide) ?_
              refine lv_iadd hx hb dX2_add_109 ?_
              obtain ⟨σ24, e25, h⟩ := fl_bnd h
              have e25 := fl_s1 e25
              refine g_put (σ' := σ24) (ci := 0) (C := RX0) (T := TX0) (N := 6) (z := ((σ21 12 0) + (1))) hx hb hts k_4 tyX0 tyX0_ok nmX0 hown hK hg 1 rfl rfl 5 (by decide) k_3 (fun _ h9 => h9) rfl (by decide +kernel) (Nat.le_of_ble_eq_true rfl) (by rw [← e25]; exact wc_c ad cz _ _) dX2_add_110 (fun H locs hg => ?_)
              refine lv_iload hx hb dX2_add_113 (lv_at hl 0 rfl) ?_
              exact hret _ _ _ _ _ _ h hg rfl dX2_add_115
            · have h := fl_ifn c11 h
              refine lv_ldc hx hb hown k_9 dX2_add_43 ?_
              exact hret _ _ _ _ _ _ h hg rfl dX2_add_45
          · have h := fl_ifp c10 h
            refine lv_ldc hx hb hown k_0 dX2_add_28 ?_
            exact hret _ _ _ _ _ _ h hg rfl dX2_add_30
  exact W0 _ _ hg
def f_X2_change (x1 : Int32) (x2 : Int32) (x3 : Int32) (σ : fl_St) : Option (Int32 × fl_St) := (f_X2_isArc x1 σ).bind fun r2 => if r2 = 0 then (some ((0), σ)) else ((f_X2_isArcData x2 x3 σ).bind fun r5 => if r5 = 0 then (some ((0), σ)) else ((fl_wr σ 2 20 x1 x2).bind fun σ7 => (fl_wr σ7 3 20 x1 x3).bind fun σ10 => some ((1), σ10)))
def rm_X2_change : Room := { frames := 1, cells := 0, slots := 0, locals := 21 }
set_option maxHeartbeats 4000000 in
set_option maxRecDepth 100000 in
theorem c_X2_change (l : Launch) (D : va_G) (ad : Nat → Nat) (cz : Nat → ClassId) (x1 : Int32) (x2 : Int32) (x3 : Int32) (σ : fl_St) {r : Int32} {σ' : fl_St} (h : f_X2_change x1 x2 x3 σ = some (r, σ')) : gMi l yX2_change wsX2_change rm_X2_change D (wc ad cz) (wcT cz) wcN [.ref (ad 0), .int x1, .int x2, .int x3] σ r σ' := by
  refine gMi_of (cc := cX2_change) (maxL := 4) (by decide) rfl (Nat.le_of_ble_eq_true rfl) ?_
  intro p e s m args below meth c A Q ls hx hb hml hown hts hK hA hg hl hret
  have hown : s.vm.findClass RX2 = some m.cls := hown
  have hl : lv_has ls 4 [(0, .ref (ad 0)), (1, .int x1), (2, .int x2), (3, .int x3)] := hl
  have k_0 := hts (.fieldLink RX2 20 "FlowLedger" "network" "LFlowLedger$Network;") (by decide +kernel)
  have k_1 := (by decide +kernel : ∀ w ∈ wsX20, w ∈ wsX2_change)
  have k_2 := hts (.fieldLink RX2 44 "FlowLedger$Network" "capacity" "[I") (by decide +kernel)
  have k_3 := (by decide +kernel : ∀ w ∈ wsX00, w ∈ wsX2_change)
  have k_4 := hts (.fieldLink RX2 47 "FlowLedger$Network" "cost" "[I") (by decide +kernel)
  unfold f_X2_change at h
  have W0 : ∀ (H : Heap) (locs : List Loc), gS D (wc ad cz) A s.heap σ H locs → W p l e rm_X2_change s m args below meth c H locs 0 0 Q (F0 m 0 ls []) := by
    intro H locs hg
    refine lv_aload_n hx hb dX2_change_0 rfl (lv_at hl 0 rfl) ?_
    refine lv_iload_n hx hb dX2_change_1 rfl (lv_at hl 1 rfl) ?_
    obtain ⟨r2, e1, h⟩ := fl_bnd h
    refine g_callVi (As := [.int x1]) (rest := []) ⟨hx, hb, hml, hown, hts⟩ (c_X2_isArc l D ad cz (x1) (σ) e1) (cwV 1 hts gX2_change_X2_isArc rfl rfl rfl (by decide +kernel) ⟨Nat.le_of_ble_eq_true rfl, Nat.le_of_ble_eq_true rfl⟩) (va_recv hK.1 hg.1 (ci := 2) (q0 := 0) rfl rfl) hK hA hg rfl hl.1 rfl (Nat.le_of_ble_eq_true rfl) dX2_change_2 ⟨Nat.le_of_ble_eq_true rfl, Nat.le_of_ble_eq_true rfl⟩ (fun H locs hg => ?_)
    refine lv_if_eq (tgt := 16) hx hb dX2_change_5 (by decide) (fun c3 => ?_) (fun c3 => ?_)
    · have h := fl_ifp c3 h
      refine lv_iconst (v := (0)) hx hb dX2_change_16 (by decide) ?_
      exact hret _ _ _ _ _ _ h hg rfl dX2_change_17
    · have h := fl_ifn c3 h
      refine lv_iload_n hx hb dX2_change_8 rfl (lv_at hl 2 rfl) ?_
      refine lv_iload_n hx hb dX2_change_9 rfl (lv_at hl 3 rfl) ?_
      obtain ⟨r5, e4, h⟩ := fl_bnd h
      refine g_callSi (As := [.int x2, .int x3]) (rest := []) ⟨hx, hb, hml, hown, hts⟩ (c_X2_isArcData l D ad cz (x2) (x3) (σ) e4) (cwS 2 hts gX2_change_X2_isArcData rfl rfl rfl (by decide +kernel) ⟨Nat.le_of_ble_eq_true rfl, Nat.le_of_ble_eq_true rfl⟩) hK hA hg rfl hl.1 rfl (Nat.le_of_ble_eq_true rfl) dX2_change_10 ⟨Nat.le_of_ble_eq_true rfl, Nat.le_of_ble_eq_true rfl⟩ (fun H locs hg => ?_)
      refine lv_if_ne (tgt := 18) hx hb dX2_change_13 (by decide) (fun c6 => ?_) (fun c6 => ?_)
      · have h := fl_ifn c6 h
        refine lv_aload_n hx hb dX2_change_18 rfl (lv_at hl 0 rfl) ?_
        refine va_get (D := D) (ci := 2) (v := .ref (ad 1)) (C := RX2) (T := TX2) (N := 2) hx hb hts k_1 hown hK.1 hg.1 0 rfl rfl 1 (by decide) k_0 (fun _ h9 => h9) rfl dX2_change_19 ?_
        refine va_get (D := D) (ci := 0) (v := .ref (ad 5)) (C := RX0) (T := TX0) (N := 6) hx hb hts k_3 hown hK.1 hg.1 1 rfl rfl 2 (by decide) k_2 (fun _ h9 => h9) rfl dX2_change_22 ?_
        refine lv_iload_n hx hb dX2_change_25 rfl (lv_at hl 1 rfl) ?_
        refine lv_iload_n hx hb dX2_change_26 rfl (lv_at hl 2 rfl) ?_
        obtain ⟨σ7, i8, e9, h⟩ := fl_wr_b h
        refine g_st (n := 20) (t0 := 2) hx hb hK hg (wc_a2 ad cz _) (wc_s2 ad cz _) rfl i8 e9 dX2_change_27 (fun H locs hg => ?_)
        refine lv_aload_n hx hb dX2_change_28 rfl (lv_at hl 0 rfl) ?_
        refine va_get (D := D) (ci := 2) (v := .ref (ad 1)) (C := RX2) (T := TX2) (N := 2) hx hb hts k_1 hown hK.1 hg.1 0 rfl rfl 1 (by decide) k_0 (fun _ h9 => h9) rfl dX2_change_29 ?_
        refine va_get (D := D) (ci := 0) (v := .ref (ad 6)) (C := RX0) (T := TX0) (N := 6) hx hb hts k_3 hown hK.1 hg.1 1 rfl rfl 3 (by decide) k_4 (fun _ h9 => h9) rfl dX2_change_32 ?_
        refine lv_iload_n hx hb dX2_change_35 rfl (lv_at hl 1 rfl) ?_
        refine lv_iload_n hx hb dX2_change_36 rfl (lv_at hl 3 rfl) ?_
        obtain ⟨σ10, i11, e12, h⟩ := fl_wr_b h
        refine g_st (n := 20) (t0 := 3) hx hb hK hg (wc_a3 ad cz _) (wc_s3 ad cz _) rfl i11 e12 dX2_change_37 (fun H locs hg => ?_)
        refine lv_iconst (v := (1)) hx hb dX2_change_38 (by decide) ?_
        exact hret _ _ _ _ _ _ h hg rfl dX2_change_39
      · have h := fl_ifp c6 h
        refine lv_iconst (v := (0)) hx hb dX2_change_16 (by decide) ?_
        exact hret _ _ _ _ _ _ h hg rfl dX2_change_17
  exact W0 _ _ hg
def f_X2_supply (x1 : Int32) (x2 : Int32) (σ : fl_St) : Option (Int32 × fl_St) := (f_X2_isNode x1 σ).bind fun r2 => if r2 = 0 then (some ((0), σ)) else (if x2 < (-30) then (some ((0), σ)) else (if x2 ≤ (30) then ((fl_wr σ 4 8 x1 x2).bind fun σ6 => some ((1), σ6)) else (some ((0), σ))))
def rm_X2_supply : Room := { frames := 1, cells := 0, slots := 0, locals := 20 }
set_option maxHeartbeats 4000000 in
set_option maxRecDepth 100000 in
theorem c_X2_supply (l : Launch) (D : va_G) (ad : Nat → Nat) (cz : Nat → ClassId) (x1 : Int32) (x2 : Int32) (σ : fl_St) {r : Int32} {σ' : fl_St} (h : f_X2_supply x1 x2 σ = some (r, σ')) : gMi l yX2_supply wsX2_supply rm_X2_supply D (wc ad cz) (wcT cz) wcN [.ref (ad 0), .int x1, .int x2] σ r σ' := by
  refine gMi_of (cc := cX2_supply) (maxL := 3) (by decide) rfl (Nat.le_of_ble_eq_true rfl) ?_
  intro p e s m args below meth c A Q ls hx hb hml hown hts hK hA hg hl hret
  have hown : s.vm.findClass RX2 = some m.cls := hown
  have hl : lv_has ls 3 [(0, .ref (ad 0)), (1, .int x1), (2, .int x2)] := hl
  have k_0 := hts (.fieldLink RX2 20 "FlowLedger" "network" "LFlowLedger$Network;") (by decide +kernel)
  have k_1 := (by decide +kernel : ∀ w ∈ wsX20, w ∈ wsX2_supply)
  have k_2 := hts (.fieldLink RX2 53 "FlowLedger$Network" "supply" "[I") (by decide +kernel)
  have k_3 := (by decide +kernel : ∀ w ∈ wsX00, w ∈ wsX2_supply)
  unfold f_X2_supply at h
  have W0 : ∀ (H : Heap) (locs : List Loc), gS D (wc ad cz) A s.heap σ H locs → W p l e rm_X2_supply s m args below meth c H locs 0 0 Q (F0 m 0 ls []) := by
    intro H locs hg
    refine lv_iload_n hx hb dX2_supply_0 rfl (lv_at hl 1 rfl) ?_
    obtain ⟨r2, e1, h⟩ := fl_bnd h
    refine g_callSi (As := [.int x1]) (rest := []) ⟨hx, hb, hml, hown, hts⟩ (c_X2_isNode l D ad cz (x1) (σ) e1) (cwS 1 hts gX2_supply_X2_isNode rfl rfl rfl (by decide +kernel) ⟨Nat.le_of_ble_eq_true rfl, Nat.le_of_ble_eq_true rfl⟩) hK hA hg rfl hl.1 rfl (Nat.le_of_ble_eq_true rfl) dX2_supply_1 ⟨Nat.le_of_ble_eq_true rfl, Nat.le_of_ble_eq_true rfl⟩ (fun H locs hg => ?_)
    refine lv_if_eq (tgt := 19) hx hb dX2_supply_4 (by decide) (fun c3 => ?_) (fun c3 => ?_)
    · have h := fl_ifp c3 h
      refine lv_iconst (v := (0)) hx hb dX2_supply_19 (by decide) ?_
      exact hret _ _ _ _ _ _ h hg rfl dX2_supply_20
    · have h := fl_ifn c3 h
      refine lv_iload_n hx hb dX2_supply_7 rfl (lv_at hl 2 rfl) ?_
      refine lv_bipush (v := (-30)) hx hb dX2_supply_8 (by decide) ?_
      refine lv_icmp_lt (tgt := 19) hx hb dX2_supply_10 (by decide) (fun c4 => ?_) (fun c4 => ?_)
      · have h := fl_ifp c4 h
        refine lv_iconst (v := (0)) hx hb dX2_supply_19 (by decide) ?_
        exact hret _ _ _ _ _ _ h hg rfl dX2_supply_20
      · have h := fl_ifn c4 h
        refine lv_iload_n hx hb dX2_supply_13 rfl (lv_at hl 2 rfl) ?_
        refine lv_bipush (v := (30)) hx hb dX2_supply_14 (by decide) ?_
        refine lv_icmp_le (tgt := 21) hx hb dX2_supply_16 (by decide) (fun c5 => ?_) (fun c5 => ?_)
        · have h := fl_ifp c5 h
          refine lv_aload_n hx hb dX2_supply_21 rfl (lv_at hl 0 rfl) ?_
          refine va_get (D := D) (ci := 2) (v := .ref (ad 1)) (C := RX2) (T := TX2) (N := 2) hx hb hts k_1 hown hK.1 hg.1 0 rfl rfl 1 (by decide) k_0 (fun _ h9 => h9) rfl dX2_supply_22 ?_
          refine va_get (D := D) (ci := 0) (v := .ref (ad 7)) (C := RX0) (T := TX0) (N := 6) hx hb hts k_3 hown hK.1 hg.1 1 rfl rfl 4 (by decide) k_2 (fun _ h9 => h9) rfl dX2_supply_25 ?_
          refine lv_iload_n hx hb dX2_supply_28 rfl (lv_at hl 1 rfl) ?_
          refine lv_iload_n hx hb dX2_supply_29 rfl (lv_at hl 2 rfl) ?_
          obtain ⟨σ6, i7, e8, h⟩ := fl_wr_b h
          refine g_st (n := 8) (t0 := 4) hx hb hK hg (wc_a4 ad cz _) (wc_s4 ad cz _) rfl i7 e8 dX2_supply_30 (fun H locs hg => ?_)
          refine lv_iconst (v := (1)) hx hb dX2_supply_31 (by decide) ?_
          exact hret _ _ _ _ _ _ h hg rfl dX2_supply_32
        · have h := fl_ifn c5 h
          refine lv_iconst (v := (0)) hx hb dX2_supply_19 (by decide) ?_
          exact hret _ _ _ _ _ _ h hg rfl dX2_supply_20
  exact W0 _ _ hg
def f_X2_clear_l10 : Nat → Int32 → fl_St → Option (fl_St)
  | 0, _, _ => none
  | n + 1, x1, σ => if (8) ≤ x1 then (some (σ)) else ((fl_wr σ 4 8 x1 (0)).bind fun σ4 => f_X2_clear_l10 n (x1 + 1) σ4)
def f_X2_clear (σ : fl_St) : Option (fl_St) := (some (st σ 12 0 (0))).bind fun σ1 => (f_X2_clear_l10 fl_N (0) σ1).bind fun (σ7 : fl_St) => some σ7
def rm_X2_clear : Room := { frames := 0, cells := 0, slots := 0, locals := 0 }
set_option maxHeartbeats 4000000 in
set_option maxRecDepth 100000 in
theorem c_X2_clear (l : Launch) (D : va_G) (ad : Nat → Nat) (cz : Nat → ClassId) (σ : fl_St) {σ' : fl_St} (h : f_X2_clear σ = some σ') : gMv l yX2_clear wsX2_clear rm_X2_clear D (wc ad cz) (wcT cz) wcN [.ref (ad 0)] σ σ' := by
  refine gMv_of (cc := cX2_clear) (maxL := 2) (by decide) rfl (Nat.le_of_ble_eq_true rfl) ?_
  intro p e s m args below meth c A Q ls hx hb hml hown hts hK hA hg hl hret
  have hown : s.vm.findClass RX2 = some m.cls := hown
  have hl : lv_has ls 2 [(0, .ref (ad 0))] := hl
  have k_0 := hts (.fieldLink RX2 20 "FlowLedger" "network" "LFlowLedger$Network;") (by decide +kernel)
  have k_1 := (by decide +kernel : ∀ w ∈ wsX20, w ∈ wsX2_clear)
  have k_2 := hts (.fieldLink RX2 30 "FlowLedger$Network" "count" "I") (by decide +kernel)
  have k_3 := (by decide +kernel : ∀ w ∈ wsX00, w ∈ wsX2_clear)
  have k_4 := hts (.fieldLink RX2 53 "FlowLedger$Network" "supply" "[I") (by decide +kernel)
  have L10 : ∀ (n : Nat) (x1 : Int32) (σ : fl_St) (σo : fl_St) (H : Heap) (locs : List Loc) (ls : Array Slot), f_X2_clear_l10 n x1 σ = some (σo) → gS D (wc ad cz) A s.heap σ H locs → lv_has ls 2 [(0, .ref (ad 0)), (1, .int x1)] → (∀ (H : Heap) (locs : List Loc) (ls : Array Slot), gS D (wc ad cz) A s.heap σo H locs → lv_has ls 2 [] → W p l e rm_X2_clear s m args below meth c H locs 0 0 Q (F0 m 32 ls [])) → W p l e rm_X2_clear s m args below meth c H locs 0 0 Q (F0 m 10 ls []) := by
    intro n
    induction n with
    | zero =>
      intro x1 σ σo H locs ls h hg hl kk0
      rw [f_X2_clear_l10] at h
      cases h
    | succ n ih =>
      intro x1 σ σo H locs ls h hg hl kk0
      rw [f_X2_clear_l10] at h
      refine lv_iload_n hx hb dX2_clear_10 rfl (lv_at hl 1 rfl) ?_
      refine lv_bipush (v := (8)) hx hb dX2_clear_11 (by decide) ?_
      refine lv_icmp_ge (tgt := 32) hx hb dX2_clear_13 (by decide) (fun c3 => ?_) (fun c3 => ?_)
      · have h := fl_ifp c3 h
        obtain rfl := fl_s1 h
        exact kk0 H locs ls hg (lv_sub hl [] rfl)
      · have h := fl_ifn c3 h
        refine lv_aload_n hx hb dX2_clear_16 rfl (lv_at hl 0 rfl) ?_
        refine va_get (D := D) (ci := 2) (v := .ref (ad 1)) (C := RX2) (T := TX2) (N := 2) hx hb hts k_1 hown hK.1 hg.1 0 rfl rfl 1 (by decide) k_0 (fun _ h9 => h9) rfl dX2_clear_17 ?_
        refine va_get (D := D) (ci := 0) (v := .ref (ad 7)) (C := RX0) (T := TX0) (N := 6) hx hb hts k_3 hown hK.1 hg.1 1 rfl rfl 4 (by decide) k_4 (fun _ h9 => h9) rfl dX2_clear_20 ?_
        refine lv_iload_n hx hb dX2_clear_23 rfl (lv_at hl 1 rfl) ?_
        refine lv_iconst (v := (0)) hx hb dX2_clear_24 (by decide) ?_
        obtain ⟨σ4, i5, e6, h⟩ := fl_wr_b h
        refine g_st (n := 8) (t0 := 4) hx hb hK hg (wc_a4 ad cz _) (wc_s4 ad cz _) rfl i5 e6 dX2_clear_25 (fun H locs hg => ?_)
        refine lv_iinc (v := (x1 + 1)) (lv' := [(1, .int (x1 + 1)), (0, .ref (ad 0))]) hx hb dX2_clear_26 hl (k := 1) rfl rfl (by decide) rfl (fun ls hl => ?_)
        refine lv_goto (tgt := 10) hx hb dX2_clear_29 (by decide) ?_
        exact ih _ _ _ _ _ _ h hg (lv_sub hl [1, 0] rfl) kk0
  unfold f_X2_clear at h
  have W0 : ∀ (H : Heap) (locs : List Loc), gS D (wc ad cz) A s.heap σ H locs → W p l e rm_X2_clear s m args below meth c H locs 0 0 Q (F0 m 0 ls []) := by
    intro H locs hg
    refine lv_aload_n hx hb dX2_clear_0 rfl (lv_at hl 0 rfl) ?_
    refine va_get (D := D) (ci := 2) (v := .ref (ad 1)) (C := RX2) (T := TX2) (N := 2) hx hb hts k_1 hown hK.1 hg.1 0 rfl rfl 1 (by decide) k_0 (fun _ h9 => h9) rfl dX2_clear_1 ?_
    refine lv_iconst (v := (0)) hx hb dX2_clear_4 (by decide) ?_
    obtain ⟨σ1, e2, h⟩ := fl_bnd h
    have e2 := fl_s1 e2
    refine g_put (σ' := σ1) (ci := 0) (C := RX0) (T := TX0) (N := 6) (z := (0)) hx hb hts k_3 tyX0 tyX0_ok nmX0 hown hK hg 1 rfl rfl 5 (by decide) k_2 (fun _ h9 => h9) rfl (by decide +kernel) (Nat.le_of_ble_eq_true rfl) (by rw [← e2]; exact wc_c ad cz _ _) dX2_clear_5 (fun H locs hg => ?_)
    refine lv_iconst (v := (0)) hx hb dX2_clear_8 (by decide) ?_
    refine lv_istore_n (lv' := [(1, .int (0)), (0, .ref (ad 0))]) hx hb dX2_clear_9 rfl hl (by decide) rfl (fun ls hl => ?_)
    obtain ⟨σ7, hB8, h⟩ := fl_bnd h
    refine L10 fl_N _ _ _ H locs ls hB8 hg (lv_sub hl [1, 0] rfl) (fun H locs ls hg hl => ?_)
    exact hret _ _ _ _ _ h hg dX2_clear_32
  exact W0 _ _ hg
def f_X2_arcs (σ : fl_St) : Option (Int32) := some (σ 12 0)
def rm_X2_arcs : Room := { frames := 0, cells := 0, slots := 0, locals := 0 }
set_option maxHeartbeats 4000000 in
set_option maxRecDepth 100000 in
theorem c_X2_arcs (l : Launch) (D : va_G) (ad : Nat → Nat) (cz : Nat → ClassId) (σ : fl_St) {r : Int32} (h : f_X2_arcs σ = some r) : gMi l yX2_arcs wsX2_arcs rm_X2_arcs D (wc ad cz) (wcT cz) wcN [.ref (ad 0)] σ r σ := by
  refine gMi_of (cc := cX2_arcs) (maxL := 1) (by decide) rfl (Nat.le_of_ble_eq_true rfl) ?_
  intro p e s m args below meth c A Q ls hx hb hml hown hts hK hA hg hl hret
  have hown : s.vm.findClass RX2 = some m.cls := hown
  have hl : lv_has ls 1 [(0, .ref (ad 0))] := hl
  have k_0 := hts (.fieldLink RX2 20 "FlowLedger" "network" "LFlowLedger$Network;") (by decide +kernel)
  have k_1 := (by decide +kernel : ∀ w ∈ wsX20, w ∈ wsX2_arcs)
  have k_2 := hts (.fieldLink RX2 30 "FlowLedger$Network" "count" "I") (by decide +kernel)
  have k_3 := (by decide +kernel : ∀ w ∈ wsX00, w ∈ wsX2_arcs)
  unfold f_X2_arcs at h
  have W0 : ∀ (H : Heap) (locs : List Loc), gS D (wc ad cz) A s.heap σ H locs → W p l e rm_X2_arcs s m args below meth c H locs 0 0 Q (F0 m 0 ls []) := by
    intro H locs hg
    refine lv_aload_n hx hb dX2_arcs_0 rfl (lv_at hl 0 rfl) ?_
    refine va_get (D := D) (ci := 2) (v := .ref (ad 1)) (C := RX2) (T := TX2) (N := 2) hx hb hts k_1 hown hK.1 hg.1 0 rfl rfl 1 (by decide) k_0 (fun _ h9 => h9) rfl dX2_arcs_1 ?_
    refine va_get (D := D) (ci := 0) (v := .int (σ 12 0)) (C := RX0) (T := TX0) (N := 6) hx hb hts k_3 hown hK.1 hg.1 1 rfl rfl 5 (by decide) k_2 (fun _ h9 => h9) rfl dX2_arcs_4 ?_
    exact hret _ _ _ _ _ _ (congrArg (Option.map (fun q => (q, σ))) h) hg rfl dX2_arcs_7
  exact W0 _ _ hg
