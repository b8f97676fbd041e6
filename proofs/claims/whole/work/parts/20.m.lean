def f_X3_in (x0 : Int32) (x1 : Int32) (x2 : Int32) (σ : fl_St) : Option (Int32) := (if x0 < x1 then (some ((0))) else (if x2 < x0 then (some ((0))) else (some ((1))))).bind fun (t2 : Int32) => if ¬ (t2 = 0 ∨ t2 = 1) then none else some t2
def rm_X3_in : Room := { frames := 0, cells := 0, slots := 0, locals := 0 }
set_option maxHeartbeats 4000000 in
set_option maxRecDepth 100000 in
theorem c_X3_in (l : Launch) (D : va_G) (ad : Nat → Nat) (cz : Nat → ClassId) (x0 : Int32) (x1 : Int32) (x2 : Int32) (σ : fl_St) {r : Int32} (h : f_X3_in x0 x1 x2 σ = some r) : gMi l yX3_in wsX3_in rm_X3_in D (wm ad cz) (wmT cz) [] [.int x0, .int x1, .int x2] σ r σ := by
  refine gMi_of (cc := cX3_in) (maxL := 3) (by decide) rfl (Nat.le_of_ble_eq_true rfl) ?_
  intro p e s m args below meth c A Q ls hx hb hml hown hts hK hA hg hl hret
  have hown : s.vm.findClass RX3 = some m.cls := hown
  have hl : lv_has ls 3 [(0, .int x0), (1, .int x1), (2, .int x2)] := hl
  unfold f_X3_in at h
  have W0 : ∀ (H : Heap) (locs : List Loc), gS D (wm ad cz) A s.heap σ H locs → W p l e rm_X3_in s m args below meth c H locs 0 0 Q (F0 m 0 ls []) := by
    intro H locs hg
    refine lv_iload_n hx hb dX3_in_0 rfl (lv_at hl 0 rfl) ?_
    refine lv_iload_n hx hb dX3_in_1 rfl (lv_at hl 1 rfl) ?_
    obtain ⟨t2, hB4, h⟩ := fl_bnd h
    have J3 : ∀ (H : Heap) (locs : List Loc) (ls : Array Slot), gS D (wm ad cz) A s.heap σ H locs → lv_has ls 3 [] → W p l e rm_X3_in s m args below meth c H locs 0 0 Q (F0 m 15 ls [.int t2]) := by
      intro H locs ls hg hl
      obtain ⟨z5, h⟩ := fl_bool h
      exact hret _ _ _ _ _ _ (congrArg (Option.map (fun q => (q, σ))) h) hg (fl_nar2 z5) dX3_in_15
    clear h
    have h := hB4
    refine lv_icmp_lt (tgt := 14) hx hb dX3_in_2 (by decide) (fun c1 => ?_) (fun c1 => ?_)
    · have h := fl_ifp c1 h
      refine lv_iconst (v := (0)) hx hb dX3_in_14 (by decide) ?_
      obtain rfl := fl_s1 h
      exact J3 H locs ls hg (lv_sub hl [] rfl)
    · have h := fl_ifn c1 h
      refine lv_iload_n hx hb dX3_in_5 rfl (lv_at hl 0 rfl) ?_
      refine lv_iload_n hx hb dX3_in_6 rfl (lv_at hl 2 rfl) ?_
      refine lv_icmp_gt (tgt := 14) hx hb dX3_in_7 (by decide) (fun c6 => ?_) (fun c6 => ?_)
      · have h := fl_ifp c6 h
        refine lv_iconst (v := (0)) hx hb dX3_in_14 (by decide) ?_
        obtain rfl := fl_s1 h
        exact J3 H locs ls hg (lv_sub hl [] rfl)
      · have h := fl_ifn c6 h
        refine lv_iconst (v := (1)) hx hb dX3_in_10 (by decide) ?_
        refine lv_goto (tgt := 15) hx hb dX3_in_11 (by decide) ?_
        obtain rfl := fl_s1 h
        exact J3 H locs ls hg (lv_sub hl [] rfl)
  exact W0 _ _ hg
def f_X3_add (x1 : Int32) (x2 : Int32) (x3 : Int32) (x4 : Int32) (σ : fl_St) : Option (Int32 × fl_St) := (f_X3_in x1 (0) (7) σ).bind fun r2 => if r2 = 0 then (some ((-1000000), σ)) else ((f_X3_in x2 (0) (7) σ).bind fun r5 => if r5 = 0 then (some ((-1000000), σ)) else (if x1 = x2 then (some ((-1000000), σ)) else ((f_X3_in x3 (-1) (30) σ).bind fun r9 => if r9 = 0 then (some ((-1000000), σ)) else ((f_X3_in x4 (-20) (20) σ).bind fun r12 => if r12 = 0 then (some ((-1000000), σ)) else (if (σ 13 0) = (20) then (some ((-1000001), σ)) else ((fl_wr σ 0 36 (σ 13 0) x1).bind fun σ15 => (fl_wr σ15 1 36 (σ15 13 0) x2).bind fun σ18 => (if 0 ≤ x3 then (some (x3)) else (some ((1000000)))).bind fun (t22 : Int32) => (fl_wr σ18 2 36 (σ18 13 0) t22).bind fun σ25 => (fl_wr σ25 3 36 (σ25 13 0) x4).bind fun σ28 => (some (st σ28 13 0 ((σ28 13 0) + (1)))).bind fun σ31 => some (((σ31 13 0) - (1)), σ31)))))))
def rm_X3_add : Room := { frames := 1, cells := 0, slots := 0, locals := 22 }
set_option maxHeartbeats 4000000 in
set_option maxRecDepth 100000 in
theorem c_X3_add (l : Launch) (D : va_G) (ad : Nat → Nat) (cz : Nat → ClassId) (x1 : Int32) (x2 : Int32) (x3 : Int32) (x4 : Int32) (σ : fl_St) {r : Int32} {σ' : fl_St} (h : f_X3_add x1 x2 x3 x4 σ = some (r, σ')) : gMi l yX3_add wsX3_add rm_X3_add D (wm ad cz) (wmT cz) [] [.ref (ad 0), .int x1, .int x2, .int x3, .int x4] σ r σ' := by
  refine gMi_of (cc := cX3_add) (maxL := 5) (by decide) rfl (Nat.le_of_ble_eq_true rfl) ?_
  intro p e s m args below meth c A Q ls hx hb hml hown hts hK hA hg hl hret
  have hown : s.vm.findClass RX3 = some m.cls := hown
  have hl : lv_has ls 5 [(0, .ref (ad 0)), (1, .int x1), (2, .int x2), (3, .int x3), (4, .int x4)] := hl
  have k_0 := hts (.constant RX3 54 (-1000000)) (by decide +kernel)
  have k_1 := hts (.fieldLink RX3 55 "FlowLedgerModel" "arcs" "I") (by decide +kernel)
  have k_2 := (by decide +kernel : ∀ w ∈ wsX30, w ∈ wsX3_add)
  have k_3 := hts (.fieldLink RX3 7 "FlowLedgerModel" "froms" "[I") (by decide +kernel)
  have k_4 := hts (.fieldLink RX3 13 "FlowLedgerModel" "tos" "[I") (by decide +kernel)
  have k_5 := hts (.fieldLink RX3 16 "FlowLedgerModel" "capacities" "[I") (by decide +kernel)
  have k_6 := hts (.fieldLink RX3 19 "FlowLedgerModel" "costs" "[I") (by decide +kernel)
  have k_7 := hts (.constant RX3 60 (1000000)) (by decide +kernel)
  have k_8 := hts (.constant RX3 59 (-1000001)) (by decide +kernel)
  unfold f_X3_add at h
  have W0 : ∀ (H : Heap) (locs : List Loc), gS D (wm ad cz) A s.heap σ H locs → W p l e rm_X3_add s m args below meth c H locs 0 0 Q (F0 m 0 ls []) := by
    intro H locs hg
    refine lv_iload_n hx hb dX3_add_0 rfl (lv_at hl 1 rfl) ?_
    refine lv_iconst (v := (0)) hx hb dX3_add_1 (by decide) ?_
    refine lv_bipush (v := (7)) hx hb dX3_add_2 (by decide) ?_
    obtain ⟨r2, e1, h⟩ := fl_bnd h
    refine g_callSi (As := [.int x1, .int (0), .int (7)]) (rest := []) ⟨hx, hb, hml, hown, hts⟩ (c_X3_in l D ad cz (x1) ((0)) ((7)) (σ) e1) (cwS 3 hts gX3_add_X3_in rfl rfl rfl (by decide +kernel) ⟨Nat.le_of_ble_eq_true rfl, Nat.le_of_ble_eq_true rfl⟩) hK hA hg rfl hl.1 rfl (Nat.le_of_ble_eq_true rfl) dX3_add_4 ⟨Nat.le_of_ble_eq_true rfl, Nat.le_of_ble_eq_true rfl⟩ (fun H locs hg => ?_)
    refine lv_if_eq (tgt := 47) hx hb dX3_add_7 (by decide) (fun c3 => ?_) (fun c3 => ?_)
    · have h := fl_ifp c3 h
      refine lv_ldc hx hb hown k_0 dX3_add_47 ?_
      exact hret _ _ _ _ _ _ h hg rfl dX3_add_49
    · have h := fl_ifn c3 h
      refine lv_iload_n hx hb dX3_add_10 rfl (lv_at hl 2 rfl) ?_
      refine lv_iconst (v := (0)) hx hb dX3_add_11 (by decide) ?_
      refine lv_bipush (v := (7)) hx hb dX3_add_12 (by decide) ?_
      obtain ⟨r5, e4, h⟩ := fl_bnd h
      refine g_callSi (As := [.int x2, .int (0), .int (7)]) (rest := []) ⟨hx, hb, hml, hown, hts⟩ (c_X3_in l D ad cz (x2) ((0)) ((7)) (σ) e4) (cwS 3 hts gX3_add_X3_in rfl rfl rfl (by decide +kernel) ⟨Nat.le_of_ble_eq_true rfl, Nat.le_of_ble_eq_true rfl⟩) hK hA hg rfl hl.1 rfl (Nat.le_of_ble_eq_true rfl) dX3_add_14 ⟨Nat.le_of_ble_eq_true rfl, Nat.le_of_ble_eq_true rfl⟩ (fun H locs hg => ?_)
      refine lv_if_eq (tgt := 47) hx hb dX3_add_17 (by decide) (fun c6 => ?_) (fun c6 => ?_)
      · have h := fl_ifp c6 h
        refine lv_ldc hx hb hown k_0 dX3_add_47 ?_
        exact hret _ _ _ _ _ _ h hg rfl dX3_add_49
      · have h := fl_ifn c6 h
        refine lv_iload_n hx hb dX3_add_20 rfl (lv_at hl 1 rfl) ?_
        refine lv_iload_n hx hb dX3_add_21 rfl (lv_at hl 2 rfl) ?_
        refine lv_icmp_eq (tgt := 47) hx hb dX3_add_22 (by decide) (fun c7 => ?_) (fun c7 => ?_)
        · have h := fl_ifp c7 h
          refine lv_ldc hx hb hown k_0 dX3_add_47 ?_
          exact hret _ _ _ _ _ _ h hg rfl dX3_add_49
        · have h := fl_ifn c7 h
          refine lv_iload_n hx hb dX3_add_25 rfl (lv_at hl 3 rfl) ?_
          refine lv_iconst (v := (-1)) hx hb dX3_add_26 (by decide) ?_
          refine lv_bipush (v := (30)) hx hb dX3_add_27 (by decide) ?_
          obtain ⟨r9, e8, h⟩ := fl_bnd h
          refine g_callSi (As := [.int x3, .int (-1), .int (30)]) (rest := []) ⟨hx, hb, hml, hown, hts⟩ (c_X3_in l D ad cz (x3) ((-1)) ((30)) (σ) e8) (cwS 3 hts gX3_add_X3_in rfl rfl rfl (by decide +kernel) ⟨Nat.le_of_ble_eq_true rfl, Nat.le_of_ble_eq_true rfl⟩) hK hA hg rfl hl.1 rfl (Nat.le_of_ble_eq_true rfl) dX3_add_29 ⟨Nat.le_of_ble_eq_true rfl, Nat.le_of_ble_eq_true rfl⟩ (fun H locs hg => ?_)
          refine lv_if_eq (tgt := 47) hx hb dX3_add_32 (by decide) (fun c10 => ?_) (fun c10 => ?_)
          · have h := fl_ifp c10 h
            refine lv_ldc hx hb hown k_0 dX3_add_47 ?_
            exact hret _ _ _ _ _ _ h hg rfl dX3_add_49
          · have h := fl_ifn c10 h
            refine lv_iload hx hb dX3_add_35 (lv_at hl 4 rfl) ?_
            refine lv_bipush (v := (-20)) hx hb dX3_add_37 (by decide) ?_
            refine lv_bipush (v := (20)) hx hb dX3_add_39 (by decide) ?_
            obtain ⟨r12, e11, h⟩ := fl_bnd h
            refine g_callSi (As := [.int x4, .int (-20), .int (20)]) (rest := []) ⟨hx, hb, hml, hown, hts⟩ (c_X3_in l D ad cz (x4) ((-20)) ((20)) (σ) e11) (cwS 3 hts gX3_add_X3_in rfl rfl rfl (by decide +kernel) ⟨Nat.le_of_ble_eq_true rfl, Nat.le_of_ble_eq_true rfl⟩) hK hA hg rfl hl.1 rfl (Nat.le_of_ble_eq_true rfl) dX3_add_41 ⟨Nat.le_of_ble_eq_true rfl, Nat.le_of_ble_eq_true rfl⟩ (fun H locs hg => ?_)
            refine lv_if_ne (tgt := 50) hx hb dX3_add_44 (by decide) (fun c13 => ?_) (fun c13 => ?_)
            · have h := fl_ifn c13 h
              refine lv_aload_n hx hb dX3_add_50 rfl (lv_at hl 0 rfl) ?_
              refine va_get (D := D) (ci := 3) (v := .int (σ 13 0)) (C := RX3) (T := TX3) (N := 16) hx hb hts k_2 hown hK.1 hg.1 0 rfl rfl 0 (by decide) k_1 (fun _ h9 => h9) rfl dX3_add_51 ?_
              refine lv_bipush (v := (20)) hx hb dX3_add_54 (by decide) ?_
              refine lv_icmp_ne (tgt := 62) hx hb dX3_add_56 (by decide) (fun c14 => ?_) (fun c14 => ?_)
              · have h := fl_ifn c14 h
                refine lv_aload_n hx hb dX3_add_62 rfl (lv_at hl 0 rfl) ?_
                refine va_get (D := D) (ci := 3) (v := .ref (ad 1)) (C := RX3) (T := TX3) (N := 16) hx hb hts k_2 hown hK.1 hg.1 0 rfl rfl 1 (by decide) k_3 (fun _ h9 => h9) rfl dX3_add_63 ?_
                refine lv_aload_n hx hb dX3_add_66 rfl (lv_at hl 0 rfl) ?_
                refine va_get (D := D) (ci := 3) (v := .int (σ 13 0)) (C := RX3) (T := TX3) (N := 16) hx hb hts k_2 hown hK.1 hg.1 0 rfl rfl 0 (by decide) k_1 (fun _ h9 => h9) rfl dX3_add_67 ?_
                refine lv_iload_n hx hb dX3_add_70 rfl (lv_at hl 1 rfl) ?_
                obtain ⟨σ15, i16, e17, h⟩ := fl_wr_b h
                refine g_st (n := 36) (t0 := 0) hx hb hK hg (wm_a0 ad cz _) (wm_s0 ad cz _) rfl i16 e17 dX3_add_71 (fun H locs hg => ?_)
                refine lv_aload_n hx hb dX3_add_72 rfl (lv_at hl 0 rfl) ?_
                refine va_get (D := D) (ci := 3) (v := .ref (ad 2)) (C := RX3) (T := TX3) (N := 16) hx hb hts k_2 hown hK.1 hg.1 0 rfl rfl 2 (by decide) k_4 (fun _ h9 => h9) rfl dX3_add_73 ?_
                refine lv_aload_n hx hb dX3_add_76 rfl (lv_at hl 0 rfl) ?_
                refine va_get (D := D) (ci := 3) (v := .int (σ15 13 0)) (C := RX3) (T := TX3) (N := 16) hx hb hts k_2 hown hK.1 hg.1 0 rfl rfl 0 (by decide) k_1 (fun _ h9 => h9) rfl dX3_add_77 ?_
                refine lv_iload_n hx hb dX3_add_80 rfl (lv_at hl 2 rfl) ?_
                obtain ⟨σ18, i19, e20, h⟩ := fl_wr_b h
                refine g_st (n := 36) (t0 := 1) hx hb hK hg (wm_a1 ad cz _) (wm_s1 ad cz _) rfl i19 e20 dX3_add_81 (fun H locs hg => ?_)
                refine lv_aload_n hx hb dX3_add_82 rfl (lv_at hl 0 rfl) ?_
                refine va_get (D := D) (ci := 3) (v := .ref (ad 3)) (C := RX3) (T := TX3) (N := 16) hx hb hts k_2 hown hK.1 hg.1 0 rfl rfl 3 (by decide) k_5 (fun _ h9 => h9) rfl dX3_add_83 ?_
                refine lv_aload_n hx hb dX3_add_86 rfl (lv_at hl 0 rfl) ?_
                refine va_get (D := D) (ci := 3) (v := .int (σ18 13 0)) (C := RX3) (T := TX3) (N := 16) hx hb hts k_2 hown hK.1 hg.1 0 rfl rfl 0 (by decide) k_1 (fun _ h9 => h9) rfl dX3_add_87 ?_
                refine lv_iload_n hx hb dX3_add_90 rfl (lv_at hl 3 rfl) ?_
                obtain ⟨t22, hB24, h⟩ := fl_bnd h
                have J23 : ∀ (H : Heap) (locs : List Loc) (ls : Array Slot), gS D (wm ad cz) A s.heap σ18 H locs → lv_has ls 5 [(0, .ref (ad 0)), (4, .int x4)] → W p l e rm_X3_add s m args below meth c H locs 0 0 Q (F0 m 100 ls [.int t22, .int (σ18 13 0), .ref (ad 3)]) := by
                  intro H locs ls hg hl
                  obtain ⟨σ25, i26, e27, h⟩ := fl_wr_b h
                  refine g_st (n := 36) (t0 := 2) hx hb hK hg (wm_a2 ad cz _) (wm_s2 ad cz _) rfl i26 e27 dX3_add_100 (fun H locs hg => ?_)
                  refine lv_aload_n hx hb dX3_add_101 rfl (lv_at hl 0 rfl) ?_
                  refine va_get (D := D) (ci := 3) (v := .ref (ad 4)) (C := RX3) (T := TX3) (N := 16) hx hb hts k_2 hown hK.1 hg.1 0 rfl rfl 4 (by decide) k_6 (fun _ h9 => h9) rfl dX3_add_102 ?_
                  refine lv_aload_n hx hb dX3_add_105 rfl (lv_at hl 0 rfl) ?_
                  refine va_get (D := D) (ci := 3) (v := .int (σ25 13 0)) (C := RX3) (T := TX3) (N := 16) hx hb hts k_2 hown hK.1 hg.1 0 rfl rfl 0 (by decide) k_1 (fun _ h9 => h9) rfl dX3_add_106 ?_
                  refine lv_iload hx hb dX3_add_109 (lv_at hl 1 rfl) ?_
                  obtain ⟨σ28, i29, e30, h⟩ := fl_wr_b h
                  refine g_st (n := 36) (t0 := 3) hx hb hK hg (wm_a3 ad cz _) (wm_s3 ad cz _) rfl i29 e30 dX3_add_111 (fun H locs hg => ?_)
                  refine lv_aload_n hx hb dX3_add_112 rfl (lv_at hl 0 rfl) ?_
                  refine lv_dup hx hb dX3_add_113 rfl ?_
                  refine va_get (D := D) (ci := 3) (v := .int (σ28 13 0)) (C := RX3) (T := TX3) (N := 16) hx hb hts k_2 hown hK.1 hg.1 0 rfl rfl 0 (by decide) k_1 (fun _ h9 => h9) rfl dX3_add_114 ?_
                  refine lv_iconst (v := (1)) hx hb dX3_add_117 (by decide) ?_
                  refine lv_iadd hx hb dX3_add_118 ?_
                  obtain ⟨σ31, e32, h⟩ := fl_bnd h
                  have e32 := fl_s1 e32
                  refine g_put (σ' := σ31) (ci := 3) (C := RX3) (T := TX3) (N := 16) (z := ((σ28 13 0) + (1))) hx hb hts k_2 tyX3 tyX3_ok nmX3 hown hK hg 0 rfl rfl 0 (by decide) k_1 (fun _ h9 => h9) rfl (by decide +kernel) (Nat.le_of_ble_eq_true rfl) (by rw [← e32]; exact wm_c0 ad cz _ _) dX3_add_119 (fun H locs hg => ?_)
                  refine lv_aload_n hx hb dX3_add_122 rfl (lv_at hl 0 rfl) ?_
                  refine va_get (D := D) (ci := 3) (v := .int (σ31 13 0)) (C := RX3) (T := TX3) (N := 16) hx hb hts k_2 hown hK.1 hg.1 0 rfl rfl 0 (by decide) k_1 (fun _ h9 => h9) rfl dX3_add_123 ?_
                  refine lv_iconst (v := (1)) hx hb dX3_add_126 (by decide) ?_
                  refine lv_isub hx hb dX3_add_127 ?_
                  exact hret _ _ _ _ _ _ h hg rfl dX3_add_128
                clear h
                have h := hB24
                refine lv_if_ge (tgt := 99) hx hb dX3_add_91 (by decide) (fun c21 => ?_) (fun c21 => ?_)
                · have h := fl_ifp c21 h
                  refine lv_iload_n hx hb dX3_add_99 rfl (lv_at hl 3 rfl) ?_
                  obtain rfl := fl_s1 h
                  exact J23 H locs ls hg (lv_sub hl [0, 4] rfl)
                · have h := fl_ifn c21 h
                  refine lv_ldc hx hb hown k_7 dX3_add_94 ?_
                  refine lv_goto (tgt := 100) hx hb dX3_add_96 (by decide) ?_
                  obtain rfl := fl_s1 h
                  exact J23 H locs ls hg (lv_sub hl [0, 4] rfl)
              · have h := fl_ifp c14 h
                refine lv_ldc hx hb hown k_8 dX3_add_59 ?_
                exact hret _ _ _ _ _ _ h hg rfl dX3_add_61
            · have h := fl_ifp c13 h
              refine lv_ldc hx hb hown k_0 dX3_add_47 ?_
              exact hret _ _ _ _ _ _ h hg rfl dX3_add_49
  exact W0 _ _ hg
def f_X3_change (x1 : Int32) (x2 : Int32) (x3 : Int32) (σ : fl_St) : Option (Int32 × fl_St) := (f_X3_in x1 (0) ((σ 13 0) - (1)) σ).bind fun r2 => if r2 = 0 then (some ((0), σ)) else ((f_X3_in x2 (-1) (30) σ).bind fun r5 => if r5 = 0 then (some ((0), σ)) else ((f_X3_in x3 (-20) (20) σ).bind fun r8 => if r8 = 0 then (some ((0), σ)) else ((if 0 ≤ x2 then (some (x2)) else (some ((1000000)))).bind fun (t11 : Int32) => (fl_wr σ 2 36 x1 t11).bind fun σ14 => (fl_wr σ14 3 36 x1 x3).bind fun σ17 => some ((1), σ17))))
def rm_X3_change : Room := { frames := 1, cells := 0, slots := 0, locals := 22 }
set_option maxHeartbeats 4000000 in
set_option maxRecDepth 100000 in
theorem c_X3_change (l : Launch) (D : va_G) (ad : Nat → Nat) (cz : Nat → ClassId) (x1 : Int32) (x2 : Int32) (x3 : Int32) (σ : fl_St) {r : Int32} {σ' : fl_St} (h : f_X3_change x1 x2 x3 σ = some (r, σ')) : gMi l yX3_change wsX3_change rm_X3_change D (wm ad cz) (wmT cz) [] [.ref (ad 0), .int x1, .int x2, .int x3] σ r σ' := by
  refine gMi_of (cc := cX3_change) (maxL := 4) (by decide) rfl (Nat.le_of_ble_eq_true rfl) ?_
  intro p e s m args below meth c A Q ls hx hb hml hown hts hK hA hg hl hret
  have hown : s.vm.findClass RX3 = some m.cls := hown
  have hl : lv_has ls 4 [(0, .ref (ad 0)), (1, .int x1), (2, .int x2), (3, .int x3)] := hl
  have k_0 := hts (.fieldLink RX3 55 "FlowLedgerModel" "arcs" "I") (by decide +kernel)
  have k_1 := (by decide +kernel : ∀ w ∈ wsX30, w ∈ wsX3_change)
  have k_2 := hts (.fieldLink RX3 16 "FlowLedgerModel" "capacities" "[I") (by decide +kernel)
  have k_3 := hts (.fieldLink RX3 19 "FlowLedgerModel" "costs" "[I") (by decide +kernel)
  have k_4 := hts (.constant RX3 60 (1000000)) (by decide +kernel)
  unfold f_X3_change at h
  have W0 : ∀ (H : Heap) (locs : List Loc), gS D (wm ad cz) A s.heap σ H locs → W p l e rm_X3_change s m args below meth c H locs 0 0 Q (F0 m 0 ls []) := by
    intro H locs hg
    refine lv_iload_n hx hb dX3_change_0 rfl (lv_at hl 1 rfl) ?_
    refine lv_iconst (v := (0)) hx hb dX3_change_1 (by decide) ?_
    refine lv_aload_n hx hb dX3_change_2 rfl (lv_at hl 0 rfl) ?_
    refine va_get (D := D) (ci := 3) (v := .int (σ 13 0)) (C := RX3) (T := TX3) (N := 16) hx hb hts k_1 hown hK.1 hg.1 0 rfl rfl 0 (by decide) k_0 (fun _ h9 => h9) rfl dX3_change_3 ?_
    refine lv_iconst (v := (1)) hx hb dX3_change_6 (by decide) ?_
    refine lv_isub hx hb dX3_change_7 ?_
    obtain ⟨r2, e1, h⟩ := fl_bnd h
    refine g_callSi (As := [.int x1, .int (0), .int ((σ 13 0) - (1))]) (rest := []) ⟨hx, hb, hml, hown, hts⟩ (c_X3_in l D ad cz (x1) ((0)) (((σ 13 0) - (1))) (σ) e1) (cwS 3 hts gX3_change_X3_in rfl rfl rfl (by decide +kernel) ⟨Nat.le_of_ble_eq_true rfl, Nat.le_of_ble_eq_true rfl⟩) hK hA hg rfl hl.1 rfl (Nat.le_of_ble_eq_true rfl) dX3_change_8 ⟨Nat.le_of_ble_eq_true rfl, Nat.le_of_ble_eq_true rfl⟩ (fun H locs hg => ?_)
    refine lv_if_eq (tgt := 35) hx hb dX3_change_11 (by decide) (fun c3 => ?_) (fun c3 => ?_)
    · have h := fl_ifp c3 h
      refine lv_iconst (v := (0)) hx hb dX3_change_35 (by decide) ?_
      exact hret _ _ _ _ _ _ h hg rfl dX3_change_36
    · have h := fl_ifn c3 h
      refine lv_iload_n hx hb dX3_change_14 rfl (lv_at hl 2 rfl) ?_
      refine lv_iconst (v := (-1)) hx hb dX3_change_15 (by decide) ?_
      refine lv_bipush (v := (30)) hx hb dX3_change_16 (by decide) ?_
      obtain ⟨r5, e4, h⟩ := fl_bnd h
      refine g_callSi (As := [.int x2, .int (-1), .int (30)]) (rest := []) ⟨hx, hb, hml, hown, hts⟩ (c_X3_in l D ad cz (x2) ((-1)) ((30)) (σ) e4) (cwS 3 hts gX3_change_X3_in rfl rfl rfl (by decide +kernel) ⟨Nat.le_of_ble_eq_true rfl, Nat.le_of_ble_eq_true rfl⟩) hK hA hg rfl hl.1 rfl (Nat.le_of_ble_eq_true rfl) dX3_change_18 ⟨Nat.le_of_ble_eq_true rfl, Nat.le_of_ble_eq_true rfl⟩ (fun H locs hg => ?_)
      refine lv_if_eq (tgt := 35) hx hb dX3_change_21 (by decide) (fun c6 => ?_) (fun c6 => ?_)
      · have h := fl_ifp c6 h
        refine lv_iconst (v := (0)) hx hb dX3_change_35 (by decide) ?_
        exact hret _ _ _ _ _ _ h hg rfl dX3_change_36
      · have h := fl_ifn c6 h
        refine lv_iload_n hx hb dX3_change_24 rfl (lv_at hl 3 rfl) ?_
        refine lv_bipush (v := (-20)) hx hb dX3_change_25 (by decide) ?_
        refine lv_bipush (v := (20)) hx hb dX3_change_27 (by decide) ?_
        obtain ⟨r8, e7, h⟩ := fl_bnd h
        refine g_callSi (As := [.int x3, .int (-20), .int (20)]) (rest := []) ⟨hx, hb, hml, hown, hts⟩ (c_X3_in l D ad cz (x3) ((-20)) ((20)) (σ) e7) (cwS 3 hts gX3_change_X3_in rfl rfl rfl (by decide +kernel) ⟨Nat.le_of_ble_eq_true rfl, Nat.le_of_ble_eq_true rfl⟩) hK hA hg rfl hl.1 rfl (Nat.le_of_ble_eq_true rfl) dX3_change_29 ⟨Nat.le_of_ble_eq_true rfl, Nat.le_of_ble_eq_true rfl⟩ (fun H locs hg => ?_)
        refine lv_if_ne (tgt := 37) hx hb dX3_change_32 (by decide) (fun c9 => ?_) (fun c9 => ?_)
        · have h := fl_ifn c9 h
          refine lv_aload_n hx hb dX3_change_37 rfl (lv_at hl 0 rfl) ?_
          refine va_get (D := D) (ci := 3) (v := .ref (ad 3)) (C := RX3) (T := TX3) (N := 16) hx hb hts k_1 hown hK.1 hg.1 0 rfl rfl 3 (by decide) k_2 (fun _ h9 => h9) rfl dX3_change_38 ?_
          refine lv_iload_n hx hb dX3_change_41 rfl (lv_at hl 1 rfl) ?_
          refine lv_iload_n hx hb dX3_change_42 rfl (lv_at hl 2 rfl) ?_
          obtain ⟨t11, hB13, h⟩ := fl_bnd h
          have J12 : ∀ (H : Heap) (locs : List Loc) (ls : Array Slot), gS D (wm ad cz) A s.heap σ H locs → lv_has ls 4 [(0, .ref (ad 0)), (1, .int x1), (3, .int x3)] → W p l e rm_X3_change s m args below meth c H locs 0 0 Q (F0 m 52 ls [.int t11, .int x1, .ref (ad 3)]) := by
            intro H locs ls hg hl
            obtain ⟨σ14, i15, e16, h⟩ := fl_wr_b h
            refine g_st (n := 36) (t0 := 2) hx hb hK hg (wm_a2 ad cz _) (wm_s2 ad cz _) rfl i15 e16 dX3_change_52 (fun H locs hg => ?_)
            refine lv_aload_n hx hb dX3_change_53 rfl (lv_at hl 0 rfl) ?_
            refine va_get (D := D) (ci := 3) (v := .ref (ad 4)) (C := RX3) (T := TX3) (N := 16) hx hb hts k_1 hown hK.1 hg.1 0 rfl rfl 4 (by decide) k_3 (fun _ h9 => h9) rfl dX3_change_54 ?_
            refine lv_iload_n hx hb dX3_change_57 rfl (lv_at hl 1 rfl) ?_
            refine lv_iload_n hx hb dX3_change_58 rfl (lv_at hl 2 rfl) ?_
            obtain ⟨σ17, i18, e19, h⟩ := fl_wr_b h
            refine g_st (n := 36) (t0 := 3) hx hb hK hg (wm_a3 ad cz _) (wm_s3 ad cz _) rfl i18 e19 dX3_change_59 (fun H locs hg => ?_)
            refine lv_iconst (v := (1)) hx hb dX3_change_60 (by decide) ?_
            exact hret _ _ _ _ _ _ h hg rfl dX3_change_61
          clear h
          have h := hB13
          refine lv_if_ge (tgt := 51) hx hb dX3_change_43 (by decide) (fun c10 => ?_) (fun c10 => ?_)
          · have h := fl_ifp c10 h
            refine lv_iload_n hx hb dX3_change_51 rfl (lv_at hl 2 rfl) ?_
            obtain rfl := fl_s1 h
            exact J12 H locs ls hg (lv_sub hl [0, 1, 3] rfl)
          · have h := fl_ifn c10 h
            refine lv_ldc hx hb hown k_4 dX3_change_46 ?_
            refine lv_goto (tgt := 52) hx hb dX3_change_48 (by decide) ?_
            obtain rfl := fl_s1 h
            exact J12 H locs ls hg (lv_sub hl [0, 1, 3] rfl)
        · have h := fl_ifp c9 h
          refine lv_iconst (v := (0)) hx hb dX3_change_35 (by decide) ?_
          exact hret _ _ _ _ _ _ h hg rfl dX3_change_36
  exact W0 _ _ hg
def f_X3_supply (x1 : Int32) (x2 : Int32) (σ : fl_St) : Option (Int32 × fl_St) := (f_X3_in x1 (0) (7) σ).bind fun r2 => if r2 = 0 then (some ((0), σ)) else ((f_X3_in x2 (-30) (30) σ).bind fun r5 => if r5 = 0 then (some ((0), σ)) else ((fl_wr σ 4 8 x1 x2).bind fun σ7 => some ((1), σ7)))
def rm_X3_supply : Room := { frames := 1, cells := 0, slots := 0, locals := 22 }
set_option maxHeartbeats 4000000 in
set_option maxRecDepth 100000 in
theorem c_X3_supply (l : Launch) (D : va_G) (ad : Nat → Nat) (cz : Nat → ClassId) (x1 : Int32) (x2 : Int32) (σ : fl_St) {r : Int32} {σ' : fl_St} (h : f_X3_supply x1 x2 σ = some (r, σ')) : gMi l yX3_supply wsX3_supply rm_X3_supply D (wm ad cz) (wmT cz) [] [.ref (ad 0), .int x1, .int x2] σ r σ' := by
  refine gMi_of (cc := cX3_supply) (maxL := 3) (by decide) rfl (Nat.le_of_ble_eq_true rfl) ?_
  intro p e s m args below meth c A Q ls hx hb hml hown hts hK hA hg hl hret
  have hown : s.vm.findClass RX3 = some m.cls := hown
  have hl : lv_has ls 3 [(0, .ref (ad 0)), (1, .int x1), (2, .int x2)] := hl
  have k_0 := hts (.fieldLink RX3 22 "FlowLedgerModel" "supplies" "[I") (by decide +kernel)
  have k_1 := (by decide +kernel : ∀ w ∈ wsX30, w ∈ wsX3_supply)
  unfold f_X3_supply at h
  have W0 : ∀ (H : Heap) (locs : List Loc), gS D (wm ad cz) A s.heap σ H locs → W p l e rm_X3_supply s m args below meth c H locs 0 0 Q (F0 m 0 ls []) := by
    intro H locs hg
    refine lv_iload_n hx hb dX3_supply_0 rfl (lv_at hl 1 rfl) ?_
    refine lv_iconst (v := (0)) hx hb dX3_supply_1 (by decide) ?_
    refine lv_bipush (v := (7)) hx hb dX3_supply_2 (by decide) ?_
    obtain ⟨r2, e1, h⟩ := fl_bnd h
    refine g_callSi (As := [.int x1, .int (0), .int (7)]) (rest := []) ⟨hx, hb, hml, hown, hts⟩ (c_X3_in l D ad cz (x1) ((0)) ((7)) (σ) e1) (cwS 3 hts gX3_supply_X3_in rfl rfl rfl (by decide +kernel) ⟨Nat.le_of_ble_eq_true rfl, Nat.le_of_ble_eq_true rfl⟩) hK hA hg rfl hl.1 rfl (Nat.le_of_ble_eq_true rfl) dX3_supply_4 ⟨Nat.le_of_ble_eq_true rfl, Nat.le_of_ble_eq_true rfl⟩ (fun H locs hg => ?_)
    refine lv_if_eq (tgt := 21) hx hb dX3_supply_7 (by decide) (fun c3 => ?_) (fun c3 => ?_)
    · have h := fl_ifp c3 h
      refine lv_iconst (v := (0)) hx hb dX3_supply_21 (by decide) ?_
      exact hret _ _ _ _ _ _ h hg rfl dX3_supply_22
    · have h := fl_ifn c3 h
      refine lv_iload_n hx hb dX3_supply_10 rfl (lv_at hl 2 rfl) ?_
      refine lv_bipush (v := (-30)) hx hb dX3_supply_11 (by decide) ?_
      refine lv_bipush (v := (30)) hx hb dX3_supply_13 (by decide) ?_
      obtain ⟨r5, e4, h⟩ := fl_bnd h
      refine g_callSi (As := [.int x2, .int (-30), .int (30)]) (rest := []) ⟨hx, hb, hml, hown, hts⟩ (c_X3_in l D ad cz (x2) ((-30)) ((30)) (σ) e4) (cwS 3 hts gX3_supply_X3_in rfl rfl rfl (by decide +kernel) ⟨Nat.le_of_ble_eq_true rfl, Nat.le_of_ble_eq_true rfl⟩) hK hA hg rfl hl.1 rfl (Nat.le_of_ble_eq_true rfl) dX3_supply_15 ⟨Nat.le_of_ble_eq_true rfl, Nat.le_of_ble_eq_true rfl⟩ (fun H locs hg => ?_)
      refine lv_if_ne (tgt := 23) hx hb dX3_supply_18 (by decide) (fun c6 => ?_) (fun c6 => ?_)
      · have h := fl_ifn c6 h
        refine lv_aload_n hx hb dX3_supply_23 rfl (lv_at hl 0 rfl) ?_
        refine va_get (D := D) (ci := 3) (v := .ref (ad 5)) (C := RX3) (T := TX3) (N := 16) hx hb hts k_1 hown hK.1 hg.1 0 rfl rfl 5 (by decide) k_0 (fun _ h9 => h9) rfl dX3_supply_24 ?_
        refine lv_iload_n hx hb dX3_supply_27 rfl (lv_at hl 1 rfl) ?_
        refine lv_iload_n hx hb dX3_supply_28 rfl (lv_at hl 2 rfl) ?_
        obtain ⟨σ7, i8, e9, h⟩ := fl_wr_b h
        refine g_st (n := 8) (t0 := 4) hx hb hK hg (wm_a4 ad cz _) (wm_s4 ad cz _) rfl i8 e9 dX3_supply_29 (fun H locs hg => ?_)
        refine lv_iconst (v := (1)) hx hb dX3_supply_30 (by decide) ?_
        exact hret _ _ _ _ _ _ h hg rfl dX3_supply_31
      · have h := fl_ifp c6 h
        refine lv_iconst (v := (0)) hx hb dX3_supply_21 (by decide) ?_
        exact hret _ _ _ _ _ _ h hg rfl dX3_supply_22
  exact W0 _ _ hg
def f_X3_clear_l7 : Nat → Int32 → fl_St → Option (fl_St)
  | 0, _, _ => none
  | n + 1, x1, σ => if (8) ≤ x1 then (some (σ)) else ((fl_wr σ 4 8 x1 (0)).bind fun σ4 => f_X3_clear_l7 n (x1 + 1) σ4)
def f_X3_clear (σ : fl_St) : Option (fl_St) := (some (st σ 13 0 (0))).bind fun σ1 => (f_X3_clear_l7 fl_N (0) σ1).bind fun (σ7 : fl_St) => some σ7
def rm_X3_clear : Room := { frames := 0, cells := 0, slots := 0, locals := 0 }
set_option maxHeartbeats 4000000 in
set_option maxRecDepth 100000 in
theorem c_X3_clear (l : Launch) (D : va_G) (ad : Nat → Nat) (cz : Nat → ClassId) (σ : fl_St) {σ' : fl_St} (h : f_X3_clear σ = some σ') : gMv l yX3_clear wsX3_clear rm_X3_clear D (wm ad cz) (wmT cz) [] [.ref (ad 0)] σ σ' := by
  refine gMv_of (cc := cX3_clear) (maxL := 2) (by decide) rfl (Nat.le_of_ble_eq_true rfl) ?_
  intro p e s m args below meth c A Q ls hx hb hml hown hts hK hA hg hl hret
  have hown : s.vm.findClass RX3 = some m.cls := hown
  have hl : lv_has ls 2 [(0, .ref (ad 0))] := hl
  have k_0 := hts (.fieldLink RX3 55 "FlowLedgerModel" "arcs" "I") (by decide +kernel)
  have k_1 := (by decide +kernel : ∀ w ∈ wsX30, w ∈ wsX3_clear)
  have k_2 := hts (.fieldLink RX3 22 "FlowLedgerModel" "supplies" "[I") (by decide +kernel)
  have L7 : ∀ (n : Nat) (x1 : Int32) (σ : fl_St) (σo : fl_St) (H : Heap) (locs : List Loc) (ls : Array Slot), f_X3_clear_l7 n x1 σ = some (σo) → gS D (wm ad cz) A s.heap σ H locs → lv_has ls 2 [(0, .ref (ad 0)), (1, .int x1)] → (∀ (H : Heap) (locs : List Loc) (ls : Array Slot), gS D (wm ad cz) A s.heap σo H locs → lv_has ls 2 [] → W p l e rm_X3_clear s m args below meth c H locs 0 0 Q (F0 m 26 ls [])) → W p l e rm_X3_clear s m args below meth c H locs 0 0 Q (F0 m 7 ls []) := by
    intro n
    induction n with
    | zero =>
      intro x1 σ σo H locs ls h hg hl kk0
      rw [f_X3_clear_l7] at h
      cases h
    | succ n ih =>
      intro x1 σ σo H locs ls h hg hl kk0
      rw [f_X3_clear_l7] at h
      refine lv_iload_n hx hb dX3_clear_7 rfl (lv_at hl 1 rfl) ?_
      refine lv_bipush (v := (8)) hx hb dX3_clear_8 (by decide) ?_
      refine lv_icmp_ge (tgt := 26) hx hb dX3_clear_10 (by decide) (fun c3 => ?_) (fun c3 => ?_)
      · have h := fl_ifp c3 h
        obtain rfl := fl_s1 h
        exact kk0 H locs ls hg (lv_sub hl [] rfl)
      · have h := fl_ifn c3 h
        refine lv_aload_n hx hb dX3_clear_13 rfl (lv_at hl 0 rfl) ?_
        refine va_get (D := D) (ci := 3) (v := .ref (ad 5)) (C := RX3) (T := TX3) (N := 16) hx hb hts k_1 hown hK.1 hg.1 0 rfl rfl 5 (by decide) k_2 (fun _ h9 => h9) rfl dX3_clear_14 ?_
        refine lv_iload_n hx hb dX3_clear_17 rfl (lv_at hl 1 rfl) ?_
        refine lv_iconst (v := (0)) hx hb dX3_clear_18 (by decide) ?_
        obtain ⟨σ4, i5, e6, h⟩ := fl_wr_b h
        refine g_st (n := 8) (t0 := 4) hx hb hK hg (wm_a4 ad cz _) (wm_s4 ad cz _) rfl i5 e6 dX3_clear_19 (fun H locs hg => ?_)
        refine lv_iinc (v := (x1 + 1)) (lv' := [(1, .int (x1 + 1)), (0, .ref (ad 0))]) hx hb dX3_clear_20 hl (k := 1) rfl rfl (by decide) rfl (fun ls hl => ?_)
        refine lv_goto (tgt := 7) hx hb dX3_clear_23 (by decide) ?_
        exact ih _ _ _ _ _ _ h hg (lv_sub hl [1, 0] rfl) kk0
  unfold f_X3_clear at h
  have W0 : ∀ (H : Heap) (locs : List Loc), gS D (wm ad cz) A s.heap σ H locs → W p l e rm_X3_clear s m args below meth c H locs 0 0 Q (F0 m 0 ls []) := by
    intro H locs hg
    refine lv_aload_n hx hb dX3_clear_0 rfl (lv_at hl 0 rfl) ?_
    refine lv_iconst (v := (0)) hx hb dX3_clear_1 (by decide) ?_
    obtain ⟨σ1, e2, h⟩ := fl_bnd h
    have e2 := fl_s1 e2
    refine g_put (σ' := σ1) (ci := 3) (C := RX3) (T := TX3) (N := 16) (z := (0)) hx hb hts k_1 tyX3 tyX3_ok nmX3 hown hK hg 0 rfl rfl 0 (by decide) k_0 (fun _ h9 => h9) rfl (by decide +kernel) (Nat.le_of_ble_eq_true rfl) (by rw [← e2]; exact wm_c0 ad cz _ _) dX3_clear_2 (fun H locs hg => ?_)
    refine lv_iconst (v := (0)) hx hb dX3_clear_5 (by decide) ?_
    refine lv_istore_n (lv' := [(1, .int (0)), (0, .ref (ad 0))]) hx hb dX3_clear_6 rfl hl (by decide) rfl (fun ls hl => ?_)
    obtain ⟨σ7, hB8, h⟩ := fl_bnd h
    refine L7 fl_N _ _ _ H locs ls hB8 hg (lv_sub hl [1, 0] rfl) (fun H locs ls hg hl => ?_)
    exact hret _ _ _ _ _ h hg dX3_clear_26
  exact W0 _ _ hg
def f_X3_arcs (σ : fl_St) : Option (Int32) := some (σ 13 0)
def rm_X3_arcs : Room := { frames := 0, cells := 0, slots := 0, locals := 0 }
set_option maxHeartbeats 4000000 in
set_option maxRecDepth 100000 in
theorem c_X3_arcs (l : Launch) (D : va_G) (ad : Nat → Nat) (cz : Nat → ClassId) (σ : fl_St) {r : Int32} (h : f_X3_arcs σ = some r) : gMi l yX3_arcs wsX3_arcs rm_X3_arcs D (wm ad cz) (wmT cz) [] [.ref (ad 0)] σ r σ := by
  refine gMi_of (cc := cX3_arcs) (maxL := 1) (by decide) rfl (Nat.le_of_ble_eq_true rfl) ?_
  intro p e s m args below meth c A Q ls hx hb hml hown hts hK hA hg hl hret
  have hown : s.vm.findClass RX3 = some m.cls := hown
  have hl : lv_has ls 1 [(0, .ref (ad 0))] := hl
  have k_0 := hts (.fieldLink RX3 55 "FlowLedgerModel" "arcs" "I") (by decide +kernel)
  have k_1 := (by decide +kernel : ∀ w ∈ wsX30, w ∈ wsX3_arcs)
  unfold f_X3_arcs at h
  have W0 : ∀ (H : Heap) (locs : List Loc), gS D (wm ad cz) A s.heap σ H locs → W p l e rm_X3_arcs s m args below meth c H locs 0 0 Q (F0 m 0 ls []) := by
    intro H locs hg
    refine lv_aload_n hx hb dX3_arcs_0 rfl (lv_at hl 0 rfl) ?_
    refine va_get (D := D) (ci := 3) (v := .int (σ 13 0)) (C := RX3) (T := TX3) (N := 16) hx hb hts k_1 hown hK.1 hg.1 0 rfl rfl 0 (by decide) k_0 (fun _ h9 => h9) rfl dX3_arcs_1 ?_
    exact hret _ _ _ _ _ _ (congrArg (Option.map (fun q => (q, σ))) h) hg rfl dX3_arcs_4
  exact W0 _ _ hg
def f_X3_lead (x1 : Int32) (x2 : Int32) (x3 : Int32) (σ : fl_St) : Option (fl_St) := (fl_wr σ 0 36 (σ 13 1) x1).bind fun σ1 => (fl_wr σ1 1 36 (σ1 13 1) x2).bind fun σ4 => (fl_wr σ4 2 36 (σ4 13 1) x3).bind fun σ7 => (fl_wr σ7 3 36 (σ7 13 1) (0)).bind fun σ10 => (some (st σ10 13 1 ((σ10 13 1) + (1)))).bind fun σ13 => some σ13
def rm_X3_lead : Room := { frames := 0, cells := 0, slots := 0, locals := 0 }
set_option maxHeartbeats 4000000 in
set_option maxRecDepth 100000 in
theorem c_X3_lead (l : Launch) (D : va_G) (ad : Nat → Nat) (cz : Nat → ClassId) (x1 : Int32) (x2 : Int32) (x3 : Int32) (σ : fl_St) {σ' : fl_St} (h : f_X3_lead x1 x2 x3 σ = some σ') : gMv l yX3_lead wsX3_lead rm_X3_lead D (wm ad cz) (wmT cz) [] [.ref (ad 0), .int x1, .int x2, .int x3] σ σ' := by
  refine gMv_of (cc := cX3_lead) (maxL := 4) (by decide) rfl (Nat.le_of_ble_eq_true rfl) ?_
  intro p e s m args below meth c A Q ls hx hb hml hown hts hK hA hg hl hret
  have hown : s.vm.findClass RX3 = some m.cls := hown
  have hl : lv_has ls 4 [(0, .ref (ad 0)), (1, .int x1), (2, .int x2), (3, .int x3)] := hl
  have k_0 := hts (.fieldLink RX3 7 "FlowLedgerModel" "froms" "[I") (by decide +kernel)
  have k_1 := (by decide +kernel : ∀ w ∈ wsX30, w ∈ wsX3_lead)
  have k_2 := hts (.fieldLink RX3 61 "FlowLedgerModel" "all" "I") (by decide +kernel)
  have k_3 := hts (.fieldLink RX3 13 "FlowLedgerModel" "tos" "[I") (by decide +kernel)
  have k_4 := hts (.fieldLink RX3 16 "FlowLedgerModel" "capacities" "[I") (by decide +kernel)
  have k_5 := hts (.fieldLink RX3 19 "FlowLedgerModel" "costs" "[I") (by decide +kernel)
  unfold f_X3_lead at h
  have W0 : ∀ (H : Heap) (locs : List Loc), gS D (wm ad cz) A s.heap σ H locs → W p l e rm_X3_lead s m args below meth c H locs 0 0 Q (F0 m 0 ls []) := by
    intro H locs hg
    refine lv_aload_n hx hb dX3_lead_0 rfl (lv_at hl 0 rfl) ?_
    refine va_get (D := D) (ci := 3) (v := .ref (ad 1)) (C := RX3) (T := TX3) (N := 16) hx hb hts k_1 hown hK.1 hg.1 0 rfl rfl 1 (by decide) k_0 (fun _ h9 => h9) rfl dX3_lead_1 ?_
    refine lv_aload_n hx hb dX3_lead_4 rfl (lv_at hl 0 rfl) ?_
    refine va_get (D := D) (ci := 3) (v := .int (σ 13 1)) (C := RX3) (T := TX3) (N := 16) hx hb hts k_1 hown hK.1 hg.1 0 rfl rfl 8 (by decide) k_2 (fun _ h9 => h9) rfl dX3_lead_5 ?_
    refine lv_iload_n hx hb dX3_lead_8 rfl (lv_at hl 1 rfl) ?_
    obtain ⟨σ1, i2, e3, h⟩ := fl_wr_b h
    refine g_st (n := 36) (t0 := 0) hx hb hK hg (wm_a0 ad cz _) (wm_s0 ad cz _) rfl i2 e3 dX3_lead_9 (fun H locs hg => ?_)
    refine lv_aload_n hx hb dX3_lead_10 rfl (lv_at hl 0 rfl) ?_
    refine va_get (D := D) (ci := 3) (v := .ref (ad 2)) (C := RX3) (T := TX3) (N := 16) hx hb hts k_1 hown hK.1 hg.1 0 rfl rfl 2 (by decide) k_3 (fun _ h9 => h9) rfl dX3_lead_11 ?_
    refine lv_aload_n hx hb dX3_lead_14 rfl (lv_at hl 0 rfl) ?_
    refine va_get (D := D) (ci := 3) (v := .int (σ1 13 1)) (C := RX3) (T := TX3) (N := 16) hx hb hts k_1 hown hK.1 hg.1 0 rfl rfl 8 (by decide) k_2 (fun _ h9 => h9) rfl dX3_lead_15 ?_
    refine lv_iload_n hx hb dX3_lead_18 rfl (lv_at hl 2 rfl) ?_
    obtain ⟨σ4, i5, e6, h⟩ := fl_wr_b h
    refine g_st (n := 36) (t0 := 1) hx hb hK hg (wm_a1 ad cz _) (wm_s1 ad cz _) rfl i5 e6 dX3_lead_19 (fun H locs hg => ?_)
    refine lv_aload_n hx hb dX3_lead_20 rfl (lv_at hl 0 rfl) ?_
    refine va_get (D := D) (ci := 3) (v := .ref (ad 3)) (C := RX3) (T := TX3) (N := 16) hx hb hts k_1 hown hK.1 hg.1 0 rfl rfl 3 (by decide) k_4 (fun _ h9 => h9) rfl dX3_lead_21 ?_
    refine lv_aload_n hx hb dX3_lead_24 rfl (lv_at hl 0 rfl) ?_
    refine va_get (D := D) (ci := 3) (v := .int (σ4 13 1)) (C := RX3) (T := TX3) (N := 16) hx hb hts k_1 hown hK.1 hg.1 0 rfl rfl 8 (by decide) k_2 (fun _ h9 => h9) rfl dX3_lead_25 ?_
    refine lv_iload_n hx hb dX3_lead_28 rfl (lv_at hl 3 rfl) ?_
    obtain ⟨σ7, i8, e9, h⟩ := fl_wr_b h
    refine g_st (n := 36) (t0 := 2) hx hb hK hg (wm_a2 ad cz _) (wm_s2 ad cz _) rfl i8 e9 dX3_lead_29 (fun H locs hg => ?_)
    refine lv_aload_n hx hb dX3_lead_30 rfl (lv_at hl 0 rfl) ?_
    refine va_get (D := D) (ci := 3) (v := .ref (ad 4)) (C := RX3) (T := TX3) (N := 16) hx hb hts k_1 hown hK.1 hg.1 0 rfl rfl 4 (by decide) k_5 (fun _ h9 => h9) rfl dX3_lead_31 ?_
    refine lv_aload_n hx hb dX3_lead_34 rfl (lv_at hl 0 rfl) ?_
    refine va_get (D := D) (ci := 3) (v := .int (σ7 13 1)) (C := RX3) (T := TX3) (N := 16) hx hb hts k_1 hown hK.1 hg.1 0 rfl rfl 8 (by decide) k_2 (fun _ h9 => h9) rfl dX3_lead_35 ?_
    refine lv_iconst (v := (0)) hx hb dX3_lead_38 (by decide) ?_
    obtain ⟨σ10, i11, e12, h⟩ := fl_wr_b h
    refine g_st (n := 36) (t0 := 3) hx hb hK hg (wm_a3 ad cz _) (wm_s3 ad cz _) rfl i11 e12 dX3_lead_39 (fun H locs hg => ?_)
    refine lv_aload_n hx hb dX3_lead_40 rfl (lv_at hl 0 rfl) ?_
    refine lv_dup hx hb dX3_lead_41 rfl ?_
    refine va_get (D := D) (ci := 3) (v := .int (σ10 13 1)) (C := RX3) (T := TX3) (N := 16) hx hb hts k_1 hown hK.1 hg.1 0 rfl rfl 8 (by decide) k_2 (fun _ h9 => h9) rfl dX3_lead_42 ?_
    refine lv_iconst (v := (1)) hx hb dX3_lead_45 (by decide) ?_
    refine lv_iadd hx hb dX3_lead_46 ?_
    obtain ⟨σ13, e14, h⟩ := fl_bnd h
    have e14 := fl_s1 e14
    refine g_put (σ' := σ13) (ci := 3) (C := RX3) (T := TX3) (N := 16) (z := ((σ10 13 1) + (1))) hx hb hts k_1 tyX3 tyX3_ok nmX3 hown hK hg 0 rfl rfl 8 (by decide) k_2 (fun _ h9 => h9) rfl (by decide +kernel) (Nat.le_of_ble_eq_true rfl) (by rw [← e14]; exact wm_c1 ad cz _ _) dX3_lead_47 (fun H locs hg => ?_)
    exact hret _ _ _ _ _ h hg dX3_lead_50
  exact W0 _ _ hg
def f_X3_leftFrom (fi : Nat) (x2 : Int32) (x3 : Int32) (σ : fl_St) : Option (Int32) := (fl_rd σ 10 36 x2).bind fun v1 => (if v1 = 0 then (some ((0))) else ((fl_rd σ 0 36 x2).bind fun v8 => if v8 = x3 then ((fl_rd σ 2 36 x2).bind fun v19 => (fl_rd σ fi 36 x2).bind fun v22 => some ((v19 - v22))) else ((fl_rd σ 1 36 x2).bind fun v12 => if v12 = x3 then ((fl_rd σ fi 36 x2).bind fun v16 => some (v16)) else (some ((0)))))).bind fun (t5 : Int32) => some t5
def rm_X3_leftFrom : Room := { frames := 0, cells := 0, slots := 0, locals := 0 }
set_option maxHeartbeats 4000000 in
set_option maxRecDepth 100000 in
theorem c_X3_leftFrom (l : Launch) (D : va_G) (ad : Nat → Nat) (cz : Nat → ClassId) {fi : Nat} (hfi : fi = 5 ∨ fi = 6) (x2 : Int32) (x3 : Int32) (σ : fl_St) {r : Int32} (h : f_X3_leftFrom fi x2 x3 σ = some r) : gMi l yX3_leftFrom wsX3_leftFrom rm_X3_leftFrom D (wm ad cz) (wmT cz) [] [.ref (ad 0), .ref (ad (fi + 1)), .int x2, .int x3] σ r σ := by
  refine gMi_of (cc := cX3_leftFrom) (maxL := 4) (by decide) rfl (Nat.le_of_ble_eq_true rfl) ?_
  intro p e s m args below meth c A Q ls hx hb hml hown hts hK hA hg hl hret
  have hown : s.vm.findClass RX3 = some m.cls := hown
  have hl : lv_has ls 4 [(0, .ref (ad 0)), (1, .ref (ad (fi + 1))), (2, .int x2), (3, .int x3)] := hl
  have k_0 := hts (.fieldLink RX3 41 "FlowLedgerModel" "allowed" "[Z") (by decide +kernel)
  have k_1 := (by decide +kernel : ∀ w ∈ wsX30, w ∈ wsX3_leftFrom)
  have k_2 := hts (.fieldLink RX3 7 "FlowLedgerModel" "froms" "[I") (by decide +kernel)
  have k_3 := hts (.fieldLink RX3 13 "FlowLedgerModel" "tos" "[I") (by decide +kernel)
  have k_4 := hts (.fieldLink RX3 16 "FlowLedgerModel" "capacities" "[I") (by decide +kernel)
  unfold f_X3_leftFrom at h
  have W0 : ∀ (H : Heap) (locs : List Loc), gS D (wm ad cz) A s.heap σ H locs → W p l e rm_X3_leftFrom s m args below meth c H locs 0 0 Q (F0 m 0 ls []) := by
    intro H locs hg
    refine lv_aload_n hx hb dX3_leftFrom_0 rfl (lv_at hl 0 rfl) ?_
    refine va_get (D := D) (ci := 3) (v := .ref (ad 11)) (C := RX3) (T := TX3) (N := 16) hx hb hts k_1 hown hK.1 hg.1 0 rfl rfl 12 (by decide) k_0 (fun _ h9 => h9) rfl dX3_leftFrom_1 ?_
    refine lv_iload_n hx hb dX3_leftFrom_4 rfl (lv_at hl 2 rfl) ?_
    obtain ⟨v1, i2, e3, h⟩ := fl_rd_b h
    refine g_ldz (n := 36) (t0 := 10) hx hb hK hg (wm_a10 ad cz _) rfl i2 e3 dX3_leftFrom_5 ?_
    obtain ⟨t5, hB7, h⟩ := fl_bnd h
    have J6 : ∀ (H : Heap) (locs : List Loc) (ls : Array Slot), gS D (wm ad cz) A s.heap σ H locs → lv_has ls 4 [] → W p l e rm_X3_leftFrom s m args below meth c H locs 0 0 Q (F0 m 53 ls [.int t5]) := by
      intro H locs ls hg hl
      exact hret _ _ _ _ _ _ (congrArg (Option.map (fun q => (q, σ))) h) hg rfl dX3_leftFrom_53
    clear h
    have h := hB7
    refine lv_if_ne (tgt := 13) hx hb dX3_leftFrom_6 (by decide) (fun c4 => ?_) (fun c4 => ?_)
    · have h := fl_ifn c4 h
      refine lv_aload_n hx hb dX3_leftFrom_13 rfl (lv_at hl 0 rfl) ?_
      refine va_get (D := D) (ci := 3) (v := .ref (ad 1)) (C := RX3) (T := TX3) (N := 16) hx hb hts k_1 hown hK.1 hg.1 0 rfl rfl 1 (by decide) k_2 (fun _ h9 => h9) rfl dX3_leftFrom_14 ?_
      refine lv_iload_n hx hb dX3_leftFrom_17 rfl (lv_at hl 2 rfl) ?_
      obtain ⟨v8, i9, e10, h⟩ := fl_rd_b h
      refine g_ld (n := 36) (t0 := 0) hx hb hK hg (wm_a0 ad cz _) rfl i9 e10 dX3_leftFrom_18 ?_
      refine lv_iload_n hx hb dX3_leftFrom_19 rfl (lv_at hl 3 rfl) ?_
      refine lv_icmp_ne (tgt := 36) hx hb dX3_leftFrom_20 (by decide) (fun c11 => ?_) (fun c11 => ?_)
      · have h := fl_ifn c11 h
        refine lv_aload_n hx hb dX3_leftFrom_36 rfl (lv_at hl 0 rfl) ?_
        refine va_get (D := D) (ci := 3) (v := .ref (ad 2)) (C := RX3) (T := TX3) (N := 16) hx hb hts k_1 hown hK.1 hg.1 0 rfl rfl 2 (by decide) k_3 (fun _ h9 => h9) rfl dX3_leftFrom_37 ?_
        refine lv_iload_n hx hb dX3_leftFrom_40 rfl (lv_at hl 2 rfl) ?_
        obtain ⟨v12, i13, e14, h⟩ := fl_rd_b h
        refine g_ld (n := 36) (t0 := 1) hx hb hK hg (wm_a1 ad cz _) rfl i13 e14 dX3_leftFrom_41 ?_
        refine lv_iload_n hx hb dX3_leftFrom_42 rfl (lv_at hl 3 rfl) ?_
        refine lv_icmp_ne (tgt := 52) hx hb dX3_leftFrom_43 (by decide) (fun c15 => ?_) (fun c15 => ?_)
        · have h := fl_ifn c15 h
          refine lv_iconst (v := (0)) hx hb dX3_leftFrom_52 (by decide) ?_
          obtain rfl := fl_s1 h
          exact J6 H locs ls hg (lv_sub hl [] rfl)
        · have h := fl_ifp c15 h
          refine lv_aload_n hx hb dX3_leftFrom_46 rfl (lv_at hl 1 rfl) ?_
          refine lv_iload_n hx hb dX3_leftFrom_47 rfl (lv_at hl 2 rfl) ?_
          obtain ⟨v16, i17, e18, h⟩ := fl_rd_b h
          refine g_ld (n := 36) (t0 := fi) hx hb hK hg (wm_af hfi ad cz _) (wm_tf hfi cz) i17 e18 dX3_leftFrom_48 ?_
          refine lv_goto (tgt := 53) hx hb dX3_leftFrom_49 (by decide) ?_
          obtain rfl := fl_s1 h
          exact J6 H locs ls hg (lv_sub hl [] rfl)
      · have h := fl_ifp c11 h
        refine lv_aload_n hx hb dX3_leftFrom_23 rfl (lv_at hl 0 rfl) ?_
        refine va_get (D := D) (ci := 3) (v := .ref (ad 3)) (C := RX3) (T := TX3) (N := 16) hx hb hts k_1 hown hK.1 hg.1 0 rfl rfl 3 (by decide) k_4 (fun _ h9 => h9) rfl dX3_leftFrom_24 ?_
        refine lv_iload_n hx hb dX3_leftFrom_27 rfl (lv_at hl 2 rfl) ?_
        obtain ⟨v19, i20, e21, h⟩ := fl_rd_b h
        refine g_ld (n := 36) (t0 := 2) hx hb hK hg (wm_a2 ad cz _) rfl i20 e21 dX3_leftFrom_28 ?_
        refine lv_aload_n hx hb dX3_leftFrom_29 rfl (lv_at hl 1 rfl) ?_
        refine lv_iload_n hx hb dX3_leftFrom_30 rfl (lv_at hl 2 rfl) ?_
        obtain ⟨v22, i23, e24, h⟩ := fl_rd_b h
        refine g_ld (n := 36) (t0 := fi) hx hb hK hg (wm_af hfi ad cz _) (wm_tf hfi cz) i23 e24 dX3_leftFrom_31 ?_
        refine lv_isub hx hb dX3_leftFrom_32 ?_
        refine lv_goto (tgt := 53) hx hb dX3_leftFrom_33 (by decide) ?_
        obtain rfl := fl_s1 h
        exact J6 H locs ls hg (lv_sub hl [] rfl)
    · have h := fl_ifp c4 h
      refine lv_iconst (v := (0)) hx hb dX3_leftFrom_9 (by decide) ?_
      refine lv_goto (tgt := 53) hx hb dX3_leftFrom_10 (by decide) ?_
      obtain rfl := fl_s1 h
      exact J6 H locs ls hg (lv_sub hl [] rfl)
  exact W0 _ _ hg
def f_X3_isReached_l3 (fi : Nat) (x2 : Int32) (x3 : Int32) : Nat → Int32 → fl_St → Option (fl_St)
  | 0, _, _ => none
  | n + 1, x4, σ => if (10) ≤ x4 then (some (σ)) else ((if x4 = x2 then (some ((1))) else (some ((0)))).bind fun (t3 : Int32) => if ¬ (t3 = 0 ∨ t3 = 1) then none else (fl_wr σ 7 10 x4 t3).bind fun σ6 => f_X3_isReached_l3 fi x2 x3 n (x4 + 1) σ6)
def f_X3_isReached_l66 (fi : Nat) (x3 : Int32) (x5 : Int32) (x6 : Int32) : Nat → Int32 → Int32 → fl_St → Option (Int32 × fl_St)
  | 0, _, _, _ => none
  | n + 1, x4, x7, σ => if (σ 13 1) ≤ x7 then (some (x4, σ)) else ((fl_rd σ 0 36 x7).bind fun v20 => (if v20 = x6 then ((fl_rd σ 1 36 x7).bind fun v57 => some (v57)) else ((fl_rd σ 0 36 x7).bind fun v54 => some (v54))).bind fun (t24 : Int32) => (f_X3_leftFrom fi x7 x6 σ).bind fun r28 => fl_b2 (if r28 ≤ 0 then (some (x4, σ)) else ((fl_rd σ 7 10 t24).bind fun v34 => if v34 = 0 then ((fl_wr σ 7 10 t24 (1)).bind fun σ38 => (fl_rd σ38 0 36 x7).bind fun v41 => (if v41 = x6 then (some (x7)) else (some (((-1) - x7)))).bind fun (t45 : Int32) => (fl_wr σ38 11 10 t24 t45).bind fun σ48 => (fl_wr σ48 12 10 x4 t24).bind fun σ51 => some ((x4 + 1), σ51)) else (some (x4, σ)))) fun (w30 : Int32) (σ31 : fl_St) => f_X3_isReached_l66 fi x3 x5 x6 n w30 (x7 + 1) σ31)
def f_X3_isReached_l47 (fi : Nat) (x3 : Int32) : Nat → Int32 → Int32 → fl_St → Option (fl_St)
  | 0, _, _, _ => none
  | n + 1, x4, x5, σ => if x4 ≤ x5 then (some (σ)) else ((fl_rd σ 12 10 x5).bind fun v16 => fl_b2 (f_X3_isReached_l66 fi x3 x5 v16 fl_N x4 (0) σ) fun (w60 : Int32) (σ61 : fl_St) => f_X3_isReached_l47 fi x3 n w60 (x5 + 1) σ61)
def f_X3_isReached (fi : Nat) (x2 : Int32) (x3 : Int32) (σ : fl_St) : Option (Int32 × fl_St) := (f_X3_isReached_l3 fi x2 x3 fl_N (0) σ).bind fun (σ10 : fl_St) => (fl_wr σ10 12 10 (0) x2).bind fun σ12 => (f_X3_isReached_l47 fi x3 fl_N (1) (0) σ12).bind fun (σ63 : fl_St) => (fl_rd σ63 7 10 x3).bind fun v65 => if ¬ (v65 = 0 ∨ v65 = 1) then none else some (v65, σ63)
def rm_X3_isReached : Room := { frames := 1, cells := 0, slots := 0, locals := 23 }
set_option maxHeartbeats 4000000 in
set_option maxRecDepth 100000 in
theorem c_X3_isReached (l : Launch) (D : va_G) (ad : Nat → Nat) (cz : Nat → ClassId) {fi : Nat} (hfi : fi = 5 ∨ fi = 6) (x2 : Int32) (x3 : Int32) (σ : fl_St) {r : Int32} {σ' : fl_St} (h : f_X3_isReached fi x2 x3 σ = some (r, σ')) : gMi l yX3_isReached wsX3_isReached rm_X3_isReached D (wm ad cz) (wmT cz) [] [.ref (ad 0), .ref (ad (fi + 1)), .int x2, .int x3] σ r σ' := by
  refine gMi_of (cc := cX3_isReached) (maxL := 9) (by decide) rfl (Nat.le_of_ble_eq_true rfl) ?_
  intro p e s m args below meth c A Q ls hx hb hml hown hts hK hA hg hl hret
  have hown : s.vm.findClass RX3 = some m.cls := hown
  have hl : lv_has ls 9 [(0, .ref (ad 0)), (1, .ref (ad (fi + 1))), (2, .int x2), (3, .int x3)] := hl
  have k_0 := hts (.fieldLink RX3 31 "FlowLedgerModel" "seen" "[Z") (by decide +kernel)
  have k_1 := (by decide +kernel : ∀ w ∈ wsX30, w ∈ wsX3_isReached)
  have k_2 := hts (.fieldLink RX3 47 "FlowLedgerModel" "row" "[I") (by decide +kernel)
  have k_3 := hts (.fieldLink RX3 61 "FlowLedgerModel" "all" "I") (by decide +kernel)
  have k_4 := hts (.fieldLink RX3 7 "FlowLedgerModel" "froms" "[I") (by decide +kernel)
  have k_5 := hts (.fieldLink RX3 44 "FlowLedgerModel" "way" "[I") (by decide +kernel)
  have k_6 := hts (.fieldLink RX3 13 "FlowLedgerModel" "tos" "[I") (by decide +kernel)
  have L3 : ∀ (n : Nat) (x2 : Int32) (x3 : Int32) (x4 : Int32) (σ : fl_St) (σo : fl_St) (H : Heap) (locs : List Loc) (ls : Array Slot), f_X3_isReached_l3 fi x2 x3 n x4 σ = some (σo) → gS D (wm ad cz) A s.heap σ H locs → lv_has ls 9 [(0, .ref (ad 0)), (1, .ref (ad (fi + 1))), (2, .int x2), (3, .int x3), (4, .int x4)] → (∀ (H : Heap) (locs : List Loc) (ls : Array Slot), gS D (wm ad cz) A s.heap σo H locs → lv_has ls 9 [(0, .ref (ad 0)), (1, .ref (ad (fi + 1))), (2, .int x2), (3, .int x3)] → W p l e rm_X3_isReached s m args below meth c H locs 0 0 Q (F0 m 34 ls [])) → W p l e rm_X3_isReached s m args below meth c H locs 0 0 Q (F0 m 3 ls []) := by
    intro n
    induction n with
    | zero =>
      intro x2 x3 x4 σ σo H locs ls h hg hl kk0
      rw [f_X3_isReached_l3] at h
      cases h
    | succ n ih =>
      intro x2 x3 x4 σ σo H locs ls h hg hl kk0
      rw [f_X3_isReached_l3] at h
      refine lv_iload hx hb dX3_isReached_3 (lv_at hl 4 rfl) ?_
      refine lv_bipush (v := (10)) hx hb dX3_isReached_5 (by decide) ?_
      refine lv_icmp_ge (tgt := 34) hx hb dX3_isReached_7 (by decide) (fun c1 => ?_) (fun c1 => ?_)
      · have h := fl_ifp c1 h
        obtain rfl := fl_s1 h
        exact kk0 H locs ls hg (lv_sub hl [0, 1, 2, 3] rfl)
      · have h := fl_ifn c1 h
        refine lv_aload_n hx hb dX3_isReached_10 rfl (lv_at hl 0 rfl) ?_
        refine va_get (D := D) (ci := 3) (v := .ref (ad 8)) (C := RX3) (T := TX3) (N := 16) hx hb hts k_1 hown hK.1 hg.1 0 rfl rfl 9 (by decide) k_0 (fun _ h9 => h9) rfl dX3_isReached_11 ?_
        refine lv_iload hx hb dX3_isReached_14 (lv_at hl 4 rfl) ?_
        refine lv_iload hx hb dX3_isReached_16 (lv_at hl 4 rfl) ?_
        refine lv_iload_n hx hb dX3_isReached_18 rfl (lv_at hl 2 rfl) ?_
        obtain ⟨t3, hB5, h⟩ := fl_bnd h
        have J4 : ∀ (H : Heap) (locs : List Loc) (ls : Array Slot), gS D (wm ad cz) A s.heap σ H locs → lv_has ls 9 [(0, .ref (ad 0)), (1, .ref (ad (fi + 1))), (2, .int x2), (3, .int x3), (4, .int x4)] → W p l e rm_X3_isReached s m args below meth c H locs 0 0 Q (F0 m 27 ls [.int t3, .int x4, .ref (ad 8)]) := by
          intro H locs ls hg hl
          obtain ⟨z9, h⟩ := fl_bool h
          obtain ⟨σ6, i7, e8, h⟩ := fl_wr_b h
          refine g_stz (n := 10) (t0 := 7) hx hb hK hg (wm_a7 ad cz _) (wm_s7 ad cz _) rfl (fl_nar z9) i7 e8 dX3_isReached_27 (fun H locs hg => ?_)
          refine lv_iinc (v := (x4 + 1)) (lv' := [(4, .int (x4 + 1)), (0, .ref (ad 0)), (1, .ref (ad (fi + 1))), (2, .int x2), (3, .int x3)]) hx hb dX3_isReached_28 hl (k := 4) rfl rfl (by decide) rfl (fun ls hl => ?_)
          refine lv_goto (tgt := 3) hx hb dX3_isReached_31 (by decide) ?_
          exact ih _ _ _ _ _ _ _ _ h hg (lv_sub hl [1, 2, 3, 4, 0] rfl) kk0
        clear h
        have h := hB5
        refine lv_icmp_ne (tgt := 26) hx hb dX3_isReached_19 (by decide) (fun c2 => ?_) (fun c2 => ?_)
        · have h := fl_ifn c2 h
          refine lv_iconst (v := (0)) hx hb dX3_isReached_26 (by decide) ?_
          obtain rfl := fl_s1 h
          exact J4 H locs ls hg (lv_sub hl [0, 1, 2, 3, 4] rfl)
        · have h := fl_ifp c2 h
          refine lv_iconst (v := (1)) hx hb dX3_isReached_22 (by decide) ?_
          refine lv_goto (tgt := 27) hx hb dX3_isReached_23 (by decide) ?_
          obtain rfl := fl_s1 h
          exact J4 H locs ls hg (lv_sub hl [0, 1, 2, 3, 4] rfl)
  have L66 : ∀ (n : Nat) (x3 : Int32) (x5 : Int32) (x6 : Int32) (x4 : Int32) (x7 : Int32) (σ : fl_St) (o4 : Int32) (σo : fl_St) (H : Heap) (locs : List Loc) (ls : Array Slot), f_X3_isReached_l66 fi x3 x5 x6 n x4 x7 σ = some (o4, σo) → gS D (wm ad cz) A s.heap σ H locs → lv_has ls 9 [(0, .ref (ad 0)), (1, .ref (ad (fi + 1))), (3, .int x3), (4, .int x4), (5, .int x5), (6, .int x6), (7, .int x7)] → (∀ (H : Heap) (locs : List Loc) (ls : Array Slot), gS D (wm ad cz) A s.heap σo H locs → lv_has ls 9 [(0, .ref (ad 0)), (1, .ref (ad (fi + 1))), (3, .int x3), (4, .int o4), (5, .int x5)] → W p l e rm_X3_isReached s m args below meth c H locs 0 0 Q (F0 m 182 ls [])) → W p l e rm_X3_isReached s m args below meth c H locs 0 0 Q (F0 m 66 ls []) := by
    intro n
    induction n with
    | zero =>
      intro x3 x5 x6 x4 x7 σ o4 σo H locs ls h hg hl kk0
      rw [f_X3_isReached_l66] at h
      cases h
    | succ n ih =>
      intro x3 x5 x6 x4 x7 σ o4 σo H locs ls h hg hl kk0
      rw [f_X3_isReached_l66] at h
      refine lv_iload hx hb dX3_isReached_66 (lv_at hl 6 rfl) ?_
      refine lv_aload_n hx hb dX3_isReached_68 rfl (lv_at hl 0 rfl) ?_
      refine va_get (D := D) (ci := 3) (v := .int (σ 13 1)) (C := RX3) (T := TX3) (N := 16) hx hb hts k_1 hown hK.1 hg.1 0 rfl rfl 8 (by decide) k_3 (fun _ h9 => h9) rfl dX3_isReached_69 ?_
      refine lv_icmp_ge (tgt := 182) hx hb dX3_isReached_72 (by decide) (fun c19 => ?_) (fun c19 => ?_)
      · have h := fl_ifp c19 h
        obtain ⟨rfl, rfl⟩ := fl_s2 h
        exact kk0 H locs ls hg (lv_sub hl [0, 1, 2, 3, 4] rfl)
      · have h := fl_ifn c19 h
        refine lv_aload_n hx hb dX3_isReached_75 rfl (lv_at hl 0 rfl) ?_
        refine va_get (D := D) (ci := 3) (v := .ref (ad 1)) (C := RX3) (T := TX3) (N := 16) hx hb hts k_1 hown hK.1 hg.1 0 rfl rfl 1 (by decide) k_4 (fun _ h9 => h9) rfl dX3_isReached_76 ?_
        refine lv_iload hx hb dX3_isReached_79 (lv_at hl 6 rfl) ?_
        obtain ⟨v20, i21, e22, h⟩ := fl_rd_b h
        refine g_ld (n := 36) (t0 := 0) hx hb hK hg (wm_a0 ad cz _) rfl i21 e22 dX3_isReached_81 ?_
        refine lv_iload hx hb dX3_isReached_82 (lv_at hl 5 rfl) ?_
        obtain ⟨t24, hB26, h⟩ := fl_bnd h
        have J25 : ∀ (H : Heap) (locs : List Loc) (ls : Array Slot), gS D (wm ad cz) A s.heap σ H locs → lv_has ls 9 [(0, .ref (ad 0)), (1, .ref (ad (fi + 1))), (3, .int x3), (4, .int x4), (5, .int x5), (6, .int x6), (7, .int x7)] → W p l e rm_X3_isReached s m args below meth c H locs 0 0 Q (F0 m 104 ls [.int t24]) := by
          intro H locs ls hg hl
          refine lv_istore (lv' := [(8, .int t24), (0, .ref (ad 0)), (1, .ref (ad (fi + 1))), (3, .int x3), (4, .int x4), (5, .int x5), (6, .int x6), (7, .int x7)]) hx hb dX3_isReached_104 hl (by decide) rfl (fun ls hl => ?_)
          refine lv_aload_n hx hb dX3_isReached_106 rfl (lv_at hl 1 rfl) ?_
          refine lv_aload_n hx hb dX3_isReached_107 rfl (lv_at hl 2 rfl) ?_
          refine lv_iload hx hb dX3_isReached_108 (lv_at hl 7 rfl) ?_
          refine lv_iload hx hb dX3_isReached_110 (lv_at hl 6 rfl) ?_
          obtain ⟨r28, e27, h⟩ := fl_bnd h
          refine g_callVi (As := [.ref (ad (fi + 1)), .int x7, .int x6]) (rest := []) ⟨hx, hb, hml, hown, hts⟩ (c_X3_leftFrom l D ad cz (hfi) (x7) (x6) (σ) e27) (cwV 3 hts gX3_isReached_X3_leftFrom rfl rfl rfl (by decide +kernel) ⟨Nat.le_of_ble_eq_true rfl, Nat.le_of_ble_eq_true rfl⟩) (va_recv hK.1 hg.1 (ci := 3) (q0 := 0) rfl rfl) hK hA hg rfl hl.1 rfl (Nat.le_of_ble_eq_true rfl) dX3_isReached_112 ⟨Nat.le_of_ble_eq_true rfl, Nat.le_of_ble_eq_true rfl⟩ (fun H locs hg => ?_)
          obtain ⟨w30, σ31, hB33, h⟩ := fl_b2_b h
          have J32 : ∀ (H : Heap) (locs : List Loc) (ls : Array Slot), gS D (wm ad cz) A s.heap σ31 H locs → lv_has ls 9 [(0, .ref (ad 0)), (1, .ref (ad (fi + 1))), (3, .int x3), (4, .int w30), (5, .int x5), (6, .int x6), (7, .int x7)] → W p l e rm_X3_isReached s m args below meth c H locs 0 0 Q (F0 m 176 ls []) := by
            intro H locs ls hg hl
            refine lv_iinc (v := (x7 + 1)) (lv' := [(7, .int (x7 + 1)), (0, .ref (ad 0)), (1, .ref (ad (fi + 1))), (3, .int x3), (4, .int w30), (5, .int x5), (6, .int x6)]) hx hb dX3_isReached_176 hl (k := 6) rfl rfl (by decide) rfl (fun ls hl => ?_)
            refine lv_goto (tgt := 66) hx hb dX3_isReached_179 (by decide) ?_
            exact ih _ _ _ _ _ _ _ _ _ _ _ h hg (lv_sub hl [1, 2, 3, 4, 5, 6, 0] rfl) kk0
          clear h
          have h := hB33
          refine lv_if_le (tgt := 176) hx hb dX3_isReached_115 (by decide) (fun c29 => ?_) (fun c29 => ?_)
          · have h := fl_ifp c29 h
            obtain ⟨rfl, rfl⟩ := fl_s2 h
            exact J32 H locs ls hg (lv_sub hl [1, 2, 3, 4, 5, 6, 7] rfl)
          · have h := fl_ifn c29 h
            refine lv_aload_n hx hb dX3_isReached_118 rfl (lv_at hl 1 rfl) ?_
            refine va_get (D := D) (ci := 3) (v := .ref (ad 8)) (C := RX3) (T := TX3) (N := 16) hx hb hts k_1 hown hK.1 hg.1 0 rfl rfl 9 (by decide) k_0 (fun _ h9 => h9) rfl dX3_isReached_119 ?_
            refine lv_iload hx hb dX3_isReached_122 (lv_at hl 0 rfl) ?_
            obtain ⟨v34, i35, e36, h⟩ := fl_rd_b h
            refine g_ldz (n := 10) (t0 := 7) hx hb hK hg (wm_a7 ad cz _) rfl i35 e36 dX3_isReached_124 ?_
            refine lv_if_ne (tgt := 176) hx hb dX3_isReached_125 (by decide) (fun c37 => ?_) (fun c37 => ?_)
            · have h := fl_ifn c37 h
              obtain ⟨rfl, rfl⟩ := fl_s2 h
              exact J32 H locs ls hg (lv_sub hl [1, 2, 3, 4, 5, 6, 7] rfl)
            · have h := fl_ifp c37 h
              refine lv_aload_n hx hb dX3_isReached_128 rfl (lv_at hl 1 rfl) ?_
              refine va_get (D := D) (ci := 3) (v := .ref (ad 8)) (C := RX3) (T := TX3) (N := 16) hx hb hts k_1 hown hK.1 hg.1 0 rfl rfl 9 (by decide) k_0 (fun _ h9 => h9) rfl dX3_isReached_129 ?_
              refine lv_iload hx hb dX3_isReached_132 (lv_at hl 0 rfl) ?_
              refine lv_iconst (v := (1)) hx hb dX3_isReached_134 (by decide) ?_
              obtain ⟨σ38, i39, e40, h⟩ := fl_wr_b h
              refine g_stz (n := 10) (t0 := 7) hx hb hK hg (wm_a7 ad cz _) (wm_s7 ad cz _) rfl rfl i39 e40 dX3_isReached_135 (fun H locs hg => ?_)
              refine lv_aload_n hx hb dX3_isReached_136 rfl (lv_at hl 1 rfl) ?_
              refine va_get (D := D) (ci := 3) (v := .ref (ad 12)) (C := RX3) (T := TX3) (N := 16) hx hb hts k_1 hown hK.1 hg.1 0 rfl rfl 14 (by decide) k_5 (fun _ h9 => h9) rfl dX3_isReached_137 ?_
              refine lv_iload hx hb dX3_isReached_140 (lv_at hl 0 rfl) ?_
              refine lv_aload_n hx hb dX3_isReached_142 rfl (lv_at hl 1 rfl) ?_
              refine va_get (D := D) (ci := 3) (v := .ref (ad 1)) (C := RX3) (T := TX3) (N := 16) hx hb hts k_1 hown hK.1 hg.1 0 rfl rfl 1 (by decide) k_4 (fun _ h9 => h9) rfl dX3_isReached_143 ?_
              refine lv_iload hx hb dX3_isReached_146 (lv_at hl 7 rfl) ?_
              obtain ⟨v41, i42, e43, h⟩ := fl_rd_b h
              refine g_ld (n := 36) (t0 := 0) hx hb hK hg (wm_a0 ad cz _) rfl i42 e43 dX3_isReached_148 ?_
              refine lv_iload hx hb dX3_isReached_149 (lv_at hl 6 rfl) ?_
              obtain ⟨t45, hB47, h⟩ := fl_bnd h
              have J46 : ∀ (H : Heap) (locs : List Loc) (ls : Array Slot), gS D (wm ad cz) A s.heap σ38 H locs → lv_has ls 9 [(0, .ref (ad 0)), (1, .ref (ad (fi + 1))), (3, .int x3), (4, .int x4), (5, .int x5), (6, .int x6), (7, .int x7), (8, .int t24)] → W p l e rm_X3_isReached s m args below meth c H locs 0 0 Q (F0 m 163 ls [.int t45, .int t24, .ref (ad 12)]) := by
                intro H locs ls hg hl
                obtain ⟨σ48, i49, e50, h⟩ := fl_wr_b h
                refine g_st (n := 10) (t0 := 11) hx hb hK hg (wm_a11 ad cz _) (wm_s11 ad cz _) rfl i49 e50 dX3_isReached_163 (fun H locs hg => ?_)
                refine lv_aload_n hx hb dX3_isReached_164 rfl (lv_at hl 0 rfl) ?_
                refine va_get (D := D) (ci := 3) (v := .ref (ad 13)) (C := RX3) (T := TX3) (N := 16) hx hb hts k_1 hown hK.1 hg.1 0 rfl rfl 15 (by decide) k_2 (fun _ h9 => h9) rfl dX3_isReached_165 ?_
                refine lv_iload hx hb dX3_isReached_168 (lv_at hl 3 rfl) ?_
                refine lv_iload hx hb dX3_isReached_170 (lv_at hl 7 rfl) ?_
                obtain ⟨σ51, i52, e53, h⟩ := fl_wr_b h
                refine g_st (n := 10) (t0 := 12) hx hb hK hg (wm_a12 ad cz _) (wm_s12 ad cz _) rfl i52 e53 dX3_isReached_172 (fun H locs hg => ?_)
                refine lv_iinc (v := (x4 + 1)) (lv' := [(4, .int (x4 + 1)), (0, .ref (ad 0)), (1, .ref (ad (fi + 1))), (3, .int x3), (5, .int x5), (6, .int x6), (7, .int x7), (8, .int t24)]) hx hb dX3_isReached_173 hl (k := 3) rfl rfl (by decide) rfl (fun ls hl => ?_)
                obtain ⟨rfl, rfl⟩ := fl_s2 h
                exact J32 H locs ls hg (lv_sub hl [1, 2, 3, 0, 4, 5, 6] rfl)
              clear h
              have h := hB47
              refine lv_icmp_ne (tgt := 159) hx hb dX3_isReached_151 (by decide) (fun c44 => ?_) (fun c44 => ?_)
              · have h := fl_ifn c44 h
                refine lv_iconst (v := (-1)) hx hb dX3_isReached_159 (by decide) ?_
                refine lv_iload hx hb dX3_isReached_160 (lv_at hl 7 rfl) ?_
                refine lv_isub hx hb dX3_isReached_162 ?_
                obtain rfl := fl_s1 h
                exact J46 H locs ls hg (lv_sub hl [1, 2, 3, 4, 5, 6, 7, 0] rfl)
              · have h := fl_ifp c44 h
                refine lv_iload hx hb dX3_isReached_154 (lv_at hl 7 rfl) ?_
                refine lv_goto (tgt := 163) hx hb dX3_isReached_156 (by decide) ?_
                obtain rfl := fl_s1 h
                exact J46 H locs ls hg (lv_sub hl [1, 2, 3, 4, 5, 6, 7, 0] rfl)
        clear h
        have h := hB26
        refine lv_icmp_ne (tgt := 97) hx hb dX3_isReached_84 (by decide) (fun c23 => ?_) (fun c23 => ?_)
        · have h := fl_ifn c23 h
          refine lv_aload_n hx hb dX3_isReached_97 rfl (lv_at hl 0 rfl) ?_
          refine va_get (D := D) (ci := 3) (v := .ref (ad 1)) (C := RX3) (T := TX3) (N := 16) hx hb hts k_1 hown hK.1 hg.1 0 rfl rfl 1 (by decide) k_4 (fun _ h9 => h9) rfl dX3_isReached_98 ?_
          refine lv_iload hx hb dX3_isReached_101 (lv_at hl 6 rfl) ?_
          obtain ⟨v54, i55, e56, h⟩ := fl_rd_b h
          refine g_ld (n := 36) (t0 := 0) hx hb hK hg (wm_a0 ad cz _) rfl i55 e56 dX3_isReached_103 ?_
          obtain rfl := fl_s1 h
          exact J25 H locs ls hg (lv_sub hl [0, 1, 2, 3, 4, 5, 6] rfl)
        · have h := fl_ifp c23 h
          refine lv_aload_n hx hb dX3_isReached_87 rfl (lv_at hl 0 rfl) ?_
          refine va_get (D := D) (ci := 3) (v := .ref (ad 2)) (C := RX3) (T := TX3) (N := 16) hx hb hts k_1 hown hK.1 hg.1 0 rfl rfl 2 (by decide) k_6 (fun _ h9 => h9) rfl dX3_isReached_88 ?_
          refine lv_iload hx hb dX3_isReached_91 (lv_at hl 6 rfl) ?_
          obtain ⟨v57, i58, e59, h⟩ := fl_rd_b h
          refine g_ld (n := 36) (t0 := 1) hx hb hK hg (wm_a1 ad cz _) rfl i58 e59 dX3_isReached_93 ?_
          refine lv_goto (tgt := 104) hx hb dX3_isReached_94 (by decide) ?_
          obtain rfl := fl_s1 h
          exact J25 H locs ls hg (lv_sub hl [0, 1, 2, 3, 4, 5, 6] rfl)
  have L47 : ∀ (n : Nat) (x3 : Int32) (x4 : Int32) (x5 : Int32) (σ : fl_St) (σo : fl_St) (H : Heap) (locs : List Loc) (ls : Array Slot), f_X3_isReached_l47 fi x3 n x4 x5 σ = some (σo) → gS D (wm ad cz) A s.heap σ H locs → lv_has ls 9 [(0, .ref (ad 0)), (1, .ref (ad (fi + 1))), (3, .int x3), (4, .int x4), (5, .int x5)] → (∀ (H : Heap) (locs : List Loc) (ls : Array Slot), gS D (wm ad cz) A s.heap σo H locs → lv_has ls 9 [(0, .ref (ad 0)), (3, .int x3)] → W p l e rm_X3_isReached s m args below meth c H locs 0 0 Q (F0 m 188 ls [])) → W p l e rm_X3_isReached s m args below meth c H locs 0 0 Q (F0 m 47 ls []) := by
    intro n
    induction n with
    | zero =>
      intro x3 x4 x5 σ σo H locs ls h hg hl kk0
      rw [f_X3_isReached_l47] at h
      cases h
    | succ n ih =>
      intro x3 x4 x5 σ σo H locs ls h hg hl kk0
      rw [f_X3_isReached_l47] at h
      refine lv_iload hx hb dX3_isReached_47 (lv_at hl 4 rfl) ?_
      refine lv_iload hx hb dX3_isReached_49 (lv_at hl 3 rfl) ?_
      refine lv_icmp_ge (tgt := 188) hx hb dX3_isReached_51 (by decide) (fun c15 => ?_) (fun c15 => ?_)
      · have h := fl_ifp c15 h
        obtain rfl := fl_s1 h
        exact kk0 H locs ls hg (lv_sub hl [0, 2] rfl)
      · have h := fl_ifn c15 h
        refine lv_aload_n hx hb dX3_isReached_54 rfl (lv_at hl 0 rfl) ?_
        refine va_get (D := D) (ci := 3) (v := .ref (ad 13)) (C := RX3) (T := TX3) (N := 16) hx hb hts k_1 hown hK.1 hg.1 0 rfl rfl 15 (by decide) k_2 (fun _ h9 => h9) rfl dX3_isReached_55 ?_
        refine lv_iload hx hb dX3_isReached_58 (lv_at hl 4 rfl) ?_
        obtain ⟨v16, i17, e18, h⟩ := fl_rd_b h
        refine g_ld (n := 10) (t0 := 12) hx hb hK hg (wm_a12 ad cz _) rfl i17 e18 dX3_isReached_60 ?_
        refine lv_istore (lv' := [(6, .int v16), (0, .ref (ad 0)), (1, .ref (ad (fi + 1))), (3, .int x3), (4, .int x4), (5, .int x5)]) hx hb dX3_isReached_61 hl (by decide) rfl (fun ls hl => ?_)
        refine lv_iconst (v := (0)) hx hb dX3_isReached_63 (by decide) ?_
        refine lv_istore (lv' := [(7, .int (0)), (6, .int v16), (0, .ref (ad 0)), (1, .ref (ad (fi + 1))), (3, .int x3), (4, .int x4), (5, .int x5)]) hx hb dX3_isReached_64 hl (by decide) rfl (fun ls hl => ?_)
        obtain ⟨w60, σ61, hB62, h⟩ := fl_b2_b h
        refine L66 fl_N _ _ _ _ _ _ _ _ H locs ls hB62 hg (lv_sub hl [2, 3, 4, 5, 6, 1, 0] rfl) (fun H locs ls hg hl => ?_)
        refine lv_iinc (v := (x5 + 1)) (lv' := [(5, .int (x5 + 1)), (0, .ref (ad 0)), (1, .ref (ad (fi + 1))), (3, .int x3), (4, .int w60)]) hx hb dX3_isReached_182 hl (k := 4) rfl rfl (by decide) rfl (fun ls hl => ?_)
        refine lv_goto (tgt := 47) hx hb dX3_isReached_185 (by decide) ?_
        exact ih _ _ _ _ _ _ _ _ h hg (lv_sub hl [1, 2, 3, 4, 0] rfl) kk0
  unfold f_X3_isReached at h
  have W0 : ∀ (H : Heap) (locs : List Loc), gS D (wm ad cz) A s.heap σ H locs → W p l e rm_X3_isReached s m args below meth c H locs 0 0 Q (F0 m 0 ls []) := by
    intro H locs hg
    refine lv_iconst (v := (0)) hx hb dX3_isReached_0 (by decide) ?_
    refine lv_istore (lv' := [(4, .int (0)), (0, .ref (ad 0)), (1, .ref (ad (fi + 1))), (2, .int x2), (3, .int x3)]) hx hb dX3_isReached_1 hl (by decide) rfl (fun ls hl => ?_)
    obtain ⟨σ10, hB11, h⟩ := fl_bnd h
    refine L3 fl_N _ _ _ _ _ H locs ls hB11 hg (lv_sub hl [1, 2, 3, 4, 0] rfl) (fun H locs ls hg hl => ?_)
    refine lv_aload_n hx hb dX3_isReached_34 rfl (lv_at hl 0 rfl) ?_
    refine va_get (D := D) (ci := 3) (v := .ref (ad 13)) (C := RX3) (T := TX3) (N := 16) hx hb hts k_1 hown hK.1 hg.1 0 rfl rfl 15 (by decide) k_2 (fun _ h9 => h9) rfl dX3_isReached_35 ?_
    refine lv_iconst (v := (0)) hx hb dX3_isReached_38 (by decide) ?_
    refine lv_iload_n hx hb dX3_isReached_39 rfl (lv_at hl 2 rfl) ?_
    obtain ⟨σ12, i13, e14, h⟩ := fl_wr_b h
    refine g_st (n := 10) (t0 := 12) hx hb hK hg (wm_a12 ad cz _) (wm_s12 ad cz _) rfl i13 e14 dX3_isReached_40 (fun H locs hg => ?_)
    refine lv_iconst (v := (1)) hx hb dX3_isReached_41 (by decide) ?_
    refine lv_istore (lv' := [(4, .int (1)), (0, .ref (ad 0)), (1, .ref (ad (fi + 1))), (2, .int x2), (3, .int x3)]) hx hb dX3_isReached_42 hl (by decide) rfl (fun ls hl => ?_)
    refine lv_iconst (v := (0)) hx hb dX3_isReached_44 (by decide) ?_
    refine lv_istore (lv' := [(5, .int (0)), (4, .int (1)), (0, .ref (ad 0)), (1, .ref (ad (fi + 1))), (2, .int x2), (3, .int x3)]) hx hb dX3_isReached_45 hl (by decide) rfl (fun ls hl => ?_)
    obtain ⟨σ63, hB64, h⟩ := fl_bnd h
    refine L47 fl_N _ _ _ _ _ H locs ls hB64 hg (lv_sub hl [2, 3, 5, 1, 0] rfl) (fun H locs ls hg hl => ?_)
    refine lv_aload_n hx hb dX3_isReached_188 rfl (lv_at hl 0 rfl) ?_
    refine va_get (D := D) (ci := 3) (v := .ref (ad 8)) (C := RX3) (T := TX3) (N := 16) hx hb hts k_1 hown hK.1 hg.1 0 rfl rfl 9 (by decide) k_0 (fun _ h9 => h9) rfl dX3_isReached_189 ?_
    refine lv_iload_n hx hb dX3_isReached_192 rfl (lv_at hl 1 rfl) ?_
    obtain ⟨v65, i66, e67, h⟩ := fl_rd_b h
    refine g_ldz (n := 10) (t0 := 7) hx hb hK hg (wm_a7 ad cz _) rfl i66 e67 dX3_isReached_193 ?_
    obtain ⟨z68, h⟩ := fl_bool h
    exact hret _ _ _ _ _ _ h hg (fl_nar2 z68) dX3_isReached_194
  exact W0 _ _ hg
