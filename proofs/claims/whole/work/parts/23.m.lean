def f_X3_marginal (x1 : Int32) (x2 : Int32) (σ : fl_St) : Option (Int32 × fl_St) := (f_X3_in x1 (0) (7) σ).bind fun r2 => if r2 = 0 then (some ((-1000000), σ)) else ((f_X3_in x2 (0) (7) σ).bind fun r5 => if r5 = 0 then (some ((-1000000), σ)) else (fl_b2 (f_X3_solve  σ) fun r8 σ9 => if r8 < 0 then (some (r8, σ9)) else (if x1 = x2 then (some (r8, σ9)) else ((fl_rd σ9 4 8 x1).bind fun v12 => (fl_wr σ9 4 8 x1 (v12 + (1))).bind fun σ15 => (fl_rd σ15 4 8 x2).bind fun v18 => (fl_wr σ15 4 8 x2 (v18 - (1))).bind fun σ21 => fl_b2 (f_X3_solve  σ21) fun r25 σ26 => (fl_rd σ26 4 8 x1).bind fun v27 => (fl_wr σ26 4 8 x1 (v27 - (1))).bind fun σ30 => (fl_rd σ30 4 8 x2).bind fun v33 => (fl_wr σ30 4 8 x2 (v33 + (1))).bind fun σ36 => (if 0 ≤ r25 then (some (((σ36 13 2) - (σ9 13 2)))) else (some ((-1000004)))).bind fun (t40 : Int32) => some (t40, σ36)))))
def rm_X3_marginal : Room := { frames := 5, cells := 0, slots := 0, locals := 124 }
set_option maxHeartbeats 4000000 in
set_option maxRecDepth 100000 in
theorem c_X3_marginal (l : Launch) (D : va_G) (ad : Nat → Nat) (cz : Nat → ClassId) (x1 : Int32) (x2 : Int32) (σ : fl_St) {r : Int32} {σ' : fl_St} (h : f_X3_marginal x1 x2 σ = some (r, σ')) : gMi l yX3_marginal wsX3_marginal rm_X3_marginal D (wm ad cz) (wmT cz) [] [.ref (ad 0), .int x1, .int x2] σ r σ' := by
  refine gMi_of (cc := cX3_marginal) (maxL := 5) (by decide) rfl (Nat.le_of_ble_eq_true rfl) ?_
  intro p e s m args below meth c A Q ls hx hb hml hown hts hK hA hg hl hret
  have hown : s.vm.findClass RX3 = some m.cls := hown
  have hl : lv_has ls 5 [(0, .ref (ad 0)), (1, .int x1), (2, .int x2)] := hl
  have k_0 := hts (.constant RX3 54 (-1000000)) (by decide +kernel)
  have k_1 := hts (.fieldLink RX3 100 "FlowLedgerModel" "total" "I") (by decide +kernel)
  have k_2 := (by decide +kernel : ∀ w ∈ wsX30, w ∈ wsX3_marginal)
  have k_3 := hts (.fieldLink RX3 22 "FlowLedgerModel" "supplies" "[I") (by decide +kernel)
  have k_4 := hts (.constant RX3 84 (-1000004)) (by decide +kernel)
  unfold f_X3_marginal at h
  have W0 : ∀ (H : Heap) (locs : List Loc), gS D (wm ad cz) A s.heap σ H locs → W p l e rm_X3_marginal s m args below meth c H locs 0 0 Q (F0 m 0 ls []) := by
    intro H locs hg
    refine lv_iload_n hx hb dX3_marginal_0 rfl (lv_at hl 1 rfl) ?_
    refine lv_iconst (v := (0)) hx hb dX3_marginal_1 (by decide) ?_
    refine lv_bipush (v := (7)) hx hb dX3_marginal_2 (by decide) ?_
    obtain ⟨r2, e1, h⟩ := fl_bnd h
    refine g_callSi (As := [.int x1, .int (0), .int (7)]) (rest := []) ⟨hx, hb, hml, hown, hts⟩ (c_X3_in l D ad cz (x1) ((0)) ((7)) (σ) e1) (cwS 3 hts gX3_marginal_X3_in rfl rfl rfl (by decide +kernel) ⟨Nat.le_of_ble_eq_true rfl, Nat.le_of_ble_eq_true rfl⟩) hK hA hg rfl hl.1 rfl (Nat.le_of_ble_eq_true rfl) dX3_marginal_4 ⟨Nat.le_of_ble_eq_true rfl, Nat.le_of_ble_eq_true rfl⟩ (fun H locs hg => ?_)
    refine lv_if_eq (tgt := 20) hx hb dX3_marginal_7 (by decide) (fun c3 => ?_) (fun c3 => ?_)
    · have h := fl_ifp c3 h
      refine lv_ldc hx hb hown k_0 dX3_marginal_20 ?_
      exact hret _ _ _ _ _ _ h hg rfl dX3_marginal_22
    · have h := fl_ifn c3 h
      refine lv_iload_n hx hb dX3_marginal_10 rfl (lv_at hl 2 rfl) ?_
      refine lv_iconst (v := (0)) hx hb dX3_marginal_11 (by decide) ?_
      refine lv_bipush (v := (7)) hx hb dX3_marginal_12 (by decide) ?_
      obtain ⟨r5, e4, h⟩ := fl_bnd h
      refine g_callSi (As := [.int x2, .int (0), .int (7)]) (rest := []) ⟨hx, hb, hml, hown, hts⟩ (c_X3_in l D ad cz (x2) ((0)) ((7)) (σ) e4) (cwS 3 hts gX3_marginal_X3_in rfl rfl rfl (by decide +kernel) ⟨Nat.le_of_ble_eq_true rfl, Nat.le_of_ble_eq_true rfl⟩) hK hA hg rfl hl.1 rfl (Nat.le_of_ble_eq_true rfl) dX3_marginal_14 ⟨Nat.le_of_ble_eq_true rfl, Nat.le_of_ble_eq_true rfl⟩ (fun H locs hg => ?_)
      refine lv_if_ne (tgt := 23) hx hb dX3_marginal_17 (by decide) (fun c6 => ?_) (fun c6 => ?_)
      · have h := fl_ifn c6 h
        refine lv_aload_n hx hb dX3_marginal_23 rfl (lv_at hl 0 rfl) ?_
        obtain ⟨r8, σ9, e7, h⟩ := fl_b2_b h
        refine g_callVi (As := []) (rest := []) ⟨hx, hb, hml, hown, hts⟩ (c_X3_solve l D ad cz (σ) e7) (cwV 0 hts gX3_marginal_X3_solve rfl rfl rfl (by decide +kernel) ⟨Nat.le_of_ble_eq_true rfl, Nat.le_of_ble_eq_true rfl⟩) (va_recv hK.1 hg.1 (ci := 3) (q0 := 0) rfl rfl) hK hA hg rfl hl.1 rfl (Nat.le_of_ble_eq_true rfl) dX3_marginal_24 ⟨Nat.le_of_ble_eq_true rfl, Nat.le_of_ble_eq_true rfl⟩ (fun H locs hg => ?_)
        refine lv_istore_n (lv' := [(3, .int r8), (0, .ref (ad 0)), (1, .int x1), (2, .int x2)]) hx hb dX3_marginal_27 rfl hl (by decide) rfl (fun ls hl => ?_)
        refine lv_iload_n hx hb dX3_marginal_28 rfl (lv_at hl 0 rfl) ?_
        refine lv_if_lt (tgt := 37) hx hb dX3_marginal_29 (by decide) (fun c10 => ?_) (fun c10 => ?_)
        · have h := fl_ifp c10 h
          refine lv_iload_n hx hb dX3_marginal_37 rfl (lv_at hl 0 rfl) ?_
          exact hret _ _ _ _ _ _ h hg rfl dX3_marginal_38
        · have h := fl_ifn c10 h
          refine lv_iload_n hx hb dX3_marginal_32 rfl (lv_at hl 2 rfl) ?_
          refine lv_iload_n hx hb dX3_marginal_33 rfl (lv_at hl 3 rfl) ?_
          refine lv_icmp_ne (tgt := 39) hx hb dX3_marginal_34 (by decide) (fun c11 => ?_) (fun c11 => ?_)
          · have h := fl_ifn c11 h
            refine lv_aload_n hx hb dX3_marginal_39 rfl (lv_at hl 1 rfl) ?_
            refine va_get (D := D) (ci := 3) (v := .int (σ9 13 2)) (C := RX3) (T := TX3) (N := 16) hx hb hts k_2 hown hK.1 hg.1 0 rfl rfl 13 (by decide) k_1 (fun _ h9 => h9) rfl dX3_marginal_40 ?_
            refine lv_istore (lv' := [(4, .int (σ9 13 2)), (3, .int r8), (0, .ref (ad 0)), (1, .int x1), (2, .int x2)]) hx hb dX3_marginal_43 hl (by decide) rfl (fun ls hl => ?_)
            refine lv_aload_n hx hb dX3_marginal_45 rfl (lv_at hl 2 rfl) ?_
            refine va_get (D := D) (ci := 3) (v := .ref (ad 5)) (C := RX3) (T := TX3) (N := 16) hx hb hts k_2 hown hK.1 hg.1 0 rfl rfl 5 (by decide) k_3 (fun _ h9 => h9) rfl dX3_marginal_46 ?_
            refine lv_iload_n hx hb dX3_marginal_49 rfl (lv_at hl 3 rfl) ?_
            refine lv_dup2_11 hx hb dX3_marginal_50 rfl rfl ?_
            obtain ⟨v12, i13, e14, h⟩ := fl_rd_b h
            refine g_ld (n := 8) (t0 := 4) hx hb hK hg (wm_a4 ad cz _) rfl i13 e14 dX3_marginal_51 ?_
            refine lv_iconst (v := (1)) hx hb dX3_marginal_52 (by decide) ?_
            refine lv_iadd hx hb dX3_marginal_53 ?_
            obtain ⟨σ15, i16, e17, h⟩ := fl_wr_b h
            refine g_st (n := 8) (t0 := 4) hx hb hK hg (wm_a4 ad cz _) (wm_s4 ad cz _) rfl i16 e17 dX3_marginal_54 (fun H locs hg => ?_)
            refine lv_aload_n hx hb dX3_marginal_55 rfl (lv_at hl 2 rfl) ?_
            refine va_get (D := D) (ci := 3) (v := .ref (ad 5)) (C := RX3) (T := TX3) (N := 16) hx hb hts k_2 hown hK.1 hg.1 0 rfl rfl 5 (by decide) k_3 (fun _ h9 => h9) rfl dX3_marginal_56 ?_
            refine lv_iload_n hx hb dX3_marginal_59 rfl (lv_at hl 4 rfl) ?_
            refine lv_dup2_11 hx hb dX3_marginal_60 rfl rfl ?_
            obtain ⟨v18, i19, e20, h⟩ := fl_rd_b h
            refine g_ld (n := 8) (t0 := 4) hx hb hK hg (wm_a4 ad cz _) rfl i19 e20 dX3_marginal_61 ?_
            refine lv_iconst (v := (1)) hx hb dX3_marginal_62 (by decide) ?_
            refine lv_isub hx hb dX3_marginal_63 ?_
            obtain ⟨σ21, i22, e23, h⟩ := fl_wr_b h
            refine g_st (n := 8) (t0 := 4) hx hb hK hg (wm_a4 ad cz _) (wm_s4 ad cz _) rfl i22 e23 dX3_marginal_64 (fun H locs hg => ?_)
            refine lv_aload_n hx hb dX3_marginal_65 rfl (lv_at hl 2 rfl) ?_
            obtain ⟨r25, σ26, e24, h⟩ := fl_b2_b h
            refine g_callVi (As := []) (rest := []) ⟨hx, hb, hml, hown, hts⟩ (c_X3_solve l D ad cz (σ21) e24) (cwV 0 hts gX3_marginal_X3_solve rfl rfl rfl (by decide +kernel) ⟨Nat.le_of_ble_eq_true rfl, Nat.le_of_ble_eq_true rfl⟩) (va_recv hK.1 hg.1 (ci := 3) (q0 := 0) rfl rfl) hK hA hg rfl hl.1 rfl (Nat.le_of_ble_eq_true rfl) dX3_marginal_66 ⟨Nat.le_of_ble_eq_true rfl, Nat.le_of_ble_eq_true rfl⟩ (fun H locs hg => ?_)
            refine lv_istore_n (lv' := [(3, .int r25), (4, .int (σ9 13 2)), (0, .ref (ad 0)), (1, .int x1), (2, .int x2)]) hx hb dX3_marginal_69 rfl hl (by decide) rfl (fun ls hl => ?_)
            refine lv_aload_n hx hb dX3_marginal_70 rfl (lv_at hl 2 rfl) ?_
            refine va_get (D := D) (ci := 3) (v := .ref (ad 5)) (C := RX3) (T := TX3) (N := 16) hx hb hts k_2 hown hK.1 hg.1 0 rfl rfl 5 (by decide) k_3 (fun _ h9 => h9) rfl dX3_marginal_71 ?_
            refine lv_iload_n hx hb dX3_marginal_74 rfl (lv_at hl 3 rfl) ?_
            refine lv_dup2_11 hx hb dX3_marginal_75 rfl rfl ?_
            obtain ⟨v27, i28, e29, h⟩ := fl_rd_b h
            refine g_ld (n := 8) (t0 := 4) hx hb hK hg (wm_a4 ad cz _) rfl i28 e29 dX3_marginal_76 ?_
            refine lv_iconst (v := (1)) hx hb dX3_marginal_77 (by decide) ?_
            refine lv_isub hx hb dX3_marginal_78 ?_
            obtain ⟨σ30, i31, e32, h⟩ := fl_wr_b h
            refine g_st (n := 8) (t0 := 4) hx hb hK hg (wm_a4 ad cz _) (wm_s4 ad cz _) rfl i31 e32 dX3_marginal_79 (fun H locs hg => ?_)
            refine lv_aload_n hx hb dX3_marginal_80 rfl (lv_at hl 2 rfl) ?_
            refine va_get (D := D) (ci := 3) (v := .ref (ad 5)) (C := RX3) (T := TX3) (N := 16) hx hb hts k_2 hown hK.1 hg.1 0 rfl rfl 5 (by decide) k_3 (fun _ h9 => h9) rfl dX3_marginal_81 ?_
            refine lv_iload_n hx hb dX3_marginal_84 rfl (lv_at hl 4 rfl) ?_
            refine lv_dup2_11 hx hb dX3_marginal_85 rfl rfl ?_
            obtain ⟨v33, i34, e35, h⟩ := fl_rd_b h
            refine g_ld (n := 8) (t0 := 4) hx hb hK hg (wm_a4 ad cz _) rfl i34 e35 dX3_marginal_86 ?_
            refine lv_iconst (v := (1)) hx hb dX3_marginal_87 (by decide) ?_
            refine lv_iadd hx hb dX3_marginal_88 ?_
            obtain ⟨σ36, i37, e38, h⟩ := fl_wr_b h
            refine g_st (n := 8) (t0 := 4) hx hb hK hg (wm_a4 ad cz _) (wm_s4 ad cz _) rfl i37 e38 dX3_marginal_89 (fun H locs hg => ?_)
            refine lv_iload_n hx hb dX3_marginal_90 rfl (lv_at hl 0 rfl) ?_
            obtain ⟨t40, hB42, h⟩ := fl_bnd h
            have J41 : ∀ (H : Heap) (locs : List Loc) (ls : Array Slot), gS D (wm ad cz) A s.heap σ36 H locs → lv_has ls 5 [] → W p l e rm_X3_marginal s m args below meth c H locs 0 0 Q (F0 m 106 ls [.int t40]) := by
              intro H locs ls hg hl
              exact hret _ _ _ _ _ _ h hg rfl dX3_marginal_106
            clear h
            have h := hB42
            refine lv_if_ge (tgt := 99) hx hb dX3_marginal_91 (by decide) (fun c39 => ?_) (fun c39 => ?_)
            · have h := fl_ifp c39 h
              refine lv_aload_n hx hb dX3_marginal_99 rfl (lv_at hl 2 rfl) ?_
              refine va_get (D := D) (ci := 3) (v := .int (σ36 13 2)) (C := RX3) (T := TX3) (N := 16) hx hb hts k_2 hown hK.1 hg.1 0 rfl rfl 13 (by decide) k_1 (fun _ h9 => h9) rfl dX3_marginal_100 ?_
              refine lv_iload hx hb dX3_marginal_103 (lv_at hl 1 rfl) ?_
              refine lv_isub hx hb dX3_marginal_105 ?_
              obtain rfl := fl_s1 h
              exact J41 H locs ls hg (lv_sub hl [] rfl)
            · have h := fl_ifn c39 h
              refine lv_ldc hx hb hown k_4 dX3_marginal_94 ?_
              refine lv_goto (tgt := 106) hx hb dX3_marginal_96 (by decide) ?_
              obtain rfl := fl_s1 h
              exact J41 H locs ls hg (lv_sub hl [] rfl)
          · have h := fl_ifp c11 h
            refine lv_iload_n hx hb dX3_marginal_37 rfl (lv_at hl 0 rfl) ?_
            exact hret _ _ _ _ _ _ h hg rfl dX3_marginal_38
      · have h := fl_ifp c6 h
        refine lv_ldc hx hb hown k_0 dX3_marginal_20 ?_
        exact hret _ _ _ _ _ _ h hg rfl dX3_marginal_22
  exact W0 _ _ hg
def f_X3_isFree (x1 : Int32) (σ : fl_St) : Option (Int32) := (fl_rd σ 3 36 x1).bind fun v1 => (fl_rd σ 0 36 x1).bind fun v4 => (fl_rd σ 8 10 v4).bind fun v7 => (fl_rd σ 1 36 x1).bind fun v10 => (fl_rd σ 8 10 v10).bind fun v13 => (if ((v1 + v7) - v13) = 0 then (some ((1))) else (some ((0)))).bind fun (t17 : Int32) => if ¬ (t17 = 0 ∨ t17 = 1) then none else some t17
def rm_X3_isFree : Room := { frames := 0, cells := 0, slots := 0, locals := 0 }
set_option maxHeartbeats 4000000 in
set_option maxRecDepth 100000 in
theorem c_X3_isFree (l : Launch) (D : va_G) (ad : Nat → Nat) (cz : Nat → ClassId) (x1 : Int32) (σ : fl_St) {r : Int32} (h : f_X3_isFree x1 σ = some r) : gMi l yX3_isFree wsX3_isFree rm_X3_isFree D (wm ad cz) (wmT cz) [] [.ref (ad 0), .int x1] σ r σ := by
  refine gMi_of (cc := cX3_isFree) (maxL := 2) (by decide) rfl (Nat.le_of_ble_eq_true rfl) ?_
  intro p e s m args below meth c A Q ls hx hb hml hown hts hK hA hg hl hret
  have hown : s.vm.findClass RX3 = some m.cls := hown
  have hl : lv_has ls 2 [(0, .ref (ad 0)), (1, .int x1)] := hl
  have k_0 := hts (.fieldLink RX3 19 "FlowLedgerModel" "costs" "[I") (by decide +kernel)
  have k_1 := (by decide +kernel : ∀ w ∈ wsX30, w ∈ wsX3_isFree)
  have k_2 := hts (.fieldLink RX3 35 "FlowLedgerModel" "far" "[I") (by decide +kernel)
  have k_3 := hts (.fieldLink RX3 7 "FlowLedgerModel" "froms" "[I") (by decide +kernel)
  have k_4 := hts (.fieldLink RX3 13 "FlowLedgerModel" "tos" "[I") (by decide +kernel)
  unfold f_X3_isFree at h
  have W0 : ∀ (H : Heap) (locs : List Loc), gS D (wm ad cz) A s.heap σ H locs → W p l e rm_X3_isFree s m args below meth c H locs 0 0 Q (F0 m 0 ls []) := by
    intro H locs hg
    refine lv_aload_n hx hb dX3_isFree_0 rfl (lv_at hl 0 rfl) ?_
    refine va_get (D := D) (ci := 3) (v := .ref (ad 4)) (C := RX3) (T := TX3) (N := 16) hx hb hts k_1 hown hK.1 hg.1 0 rfl rfl 4 (by decide) k_0 (fun _ h9 => h9) rfl dX3_isFree_1 ?_
    refine lv_iload_n hx hb dX3_isFree_4 rfl (lv_at hl 1 rfl) ?_
    obtain ⟨v1, i2, e3, h⟩ := fl_rd_b h
    refine g_ld (n := 36) (t0 := 3) hx hb hK hg (wm_a3 ad cz _) rfl i2 e3 dX3_isFree_5 ?_
    refine lv_aload_n hx hb dX3_isFree_6 rfl (lv_at hl 0 rfl) ?_
    refine va_get (D := D) (ci := 3) (v := .ref (ad 9)) (C := RX3) (T := TX3) (N := 16) hx hb hts k_1 hown hK.1 hg.1 0 rfl rfl 10 (by decide) k_2 (fun _ h9 => h9) rfl dX3_isFree_7 ?_
    refine lv_aload_n hx hb dX3_isFree_10 rfl (lv_at hl 0 rfl) ?_
    refine va_get (D := D) (ci := 3) (v := .ref (ad 1)) (C := RX3) (T := TX3) (N := 16) hx hb hts k_1 hown hK.1 hg.1 0 rfl rfl 1 (by decide) k_3 (fun _ h9 => h9) rfl dX3_isFree_11 ?_
    refine lv_iload_n hx hb dX3_isFree_14 rfl (lv_at hl 1 rfl) ?_
    obtain ⟨v4, i5, e6, h⟩ := fl_rd_b h
    refine g_ld (n := 36) (t0 := 0) hx hb hK hg (wm_a0 ad cz _) rfl i5 e6 dX3_isFree_15 ?_
    obtain ⟨v7, i8, e9, h⟩ := fl_rd_b h
    refine g_ld (n := 10) (t0 := 8) hx hb hK hg (wm_a8 ad cz _) rfl i8 e9 dX3_isFree_16 ?_
    refine lv_iadd hx hb dX3_isFree_17 ?_
    refine lv_aload_n hx hb dX3_isFree_18 rfl (lv_at hl 0 rfl) ?_
    refine va_get (D := D) (ci := 3) (v := .ref (ad 9)) (C := RX3) (T := TX3) (N := 16) hx hb hts k_1 hown hK.1 hg.1 0 rfl rfl 10 (by decide) k_2 (fun _ h9 => h9) rfl dX3_isFree_19 ?_
    refine lv_aload_n hx hb dX3_isFree_22 rfl (lv_at hl 0 rfl) ?_
    refine va_get (D := D) (ci := 3) (v := .ref (ad 2)) (C := RX3) (T := TX3) (N := 16) hx hb hts k_1 hown hK.1 hg.1 0 rfl rfl 2 (by decide) k_4 (fun _ h9 => h9) rfl dX3_isFree_23 ?_
    refine lv_iload_n hx hb dX3_isFree_26 rfl (lv_at hl 1 rfl) ?_
    obtain ⟨v10, i11, e12, h⟩ := fl_rd_b h
    refine g_ld (n := 36) (t0 := 1) hx hb hK hg (wm_a1 ad cz _) rfl i11 e12 dX3_isFree_27 ?_
    obtain ⟨v13, i14, e15, h⟩ := fl_rd_b h
    refine g_ld (n := 10) (t0 := 8) hx hb hK hg (wm_a8 ad cz _) rfl i14 e15 dX3_isFree_28 ?_
    refine lv_isub hx hb dX3_isFree_29 ?_
    obtain ⟨t17, hB19, h⟩ := fl_bnd h
    have J18 : ∀ (H : Heap) (locs : List Loc) (ls : Array Slot), gS D (wm ad cz) A s.heap σ H locs → lv_has ls 2 [] → W p l e rm_X3_isFree s m args below meth c H locs 0 0 Q (F0 m 38 ls [.int t17]) := by
      intro H locs ls hg hl
      obtain ⟨z20, h⟩ := fl_bool h
      exact hret _ _ _ _ _ _ (congrArg (Option.map (fun q => (q, σ))) h) hg (fl_nar2 z20) dX3_isFree_38
    clear h
    have h := hB19
    refine lv_if_ne (tgt := 37) hx hb dX3_isFree_30 (by decide) (fun c16 => ?_) (fun c16 => ?_)
    · have h := fl_ifn c16 h
      refine lv_iconst (v := (0)) hx hb dX3_isFree_37 (by decide) ?_
      obtain rfl := fl_s1 h
      exact J18 H locs ls hg (lv_sub hl [] rfl)
    · have h := fl_ifp c16 h
      refine lv_iconst (v := (1)) hx hb dX3_isFree_33 (by decide) ?_
      refine lv_goto (tgt := 38) hx hb dX3_isFree_34 (by decide) ?_
      obtain rfl := fl_s1 h
      exact J18 H locs ls hg (lv_sub hl [] rfl)
  exact W0 _ _ hg
def f_X3_room_l18 (x1 : Int32) (x2 : Int32) (x3 : Int32) (x4 : Int32) (x5 : Int32) : Nat → Int32 → fl_St → Option (fl_St)
  | 0, _, _ => none
  | n + 1, x6, σ => if (σ 13 0) ≤ x6 then (some (σ)) else ((if x6 = x1 then (some ((0))) else ((f_X3_isFree x6 σ).bind fun r22 => if r22 = 0 then (some ((0))) else (if x5 = (-1000004) then (some ((1))) else (some ((0)))))).bind fun (t8 : Int32) => if ¬ (t8 = 0 ∨ t8 = 1) then none else (fl_wr σ 10 36 x6 t8).bind fun σ11 => (fl_rd σ11 5 36 x6).bind fun v15 => (fl_wr σ11 6 36 x6 v15).bind fun σ18 => f_X3_room_l18 x1 x2 x3 x4 x5 n (x6 + 1) σ18)
def f_X3_room (x1 : Int32) (x2 : Int32) (x3 : Int32) (x4 : Int32) (σ : fl_St) : Option (Int32 × fl_St) := fl_b2 (f_X3_findRound (0) σ) fun r2 σ3 => (some (st σ3 13 1 (σ3 13 0))).bind fun σ4 => (f_X3_room_l18 x1 x2 x3 x4 r2 fl_N (0) σ4).bind fun (σ25 : fl_St) => fl_b2 (if 0 < x4 then (fl_b2 (f_X3_pushAll 6 x2 x3 x4 σ25) fun r33 σ34 => some (r33, σ34)) else (some ((0), σ25))) fun (t28 : Int32) (σ29 : fl_St) => some (t28, σ29)
def rm_X3_room : Room := { frames := 3, cells := 0, slots := 0, locals := 79 }
set_option maxHeartbeats 4000000 in
set_option maxRecDepth 100000 in
theorem c_X3_room (l : Launch) (D : va_G) (ad : Nat → Nat) (cz : Nat → ClassId) (x1 : Int32) (x2 : Int32) (x3 : Int32) (x4 : Int32) (σ : fl_St) {r : Int32} {σ' : fl_St} (h : f_X3_room x1 x2 x3 x4 σ = some (r, σ')) : gMi l yX3_room wsX3_room rm_X3_room D (wm ad cz) (wmT cz) [] [.ref (ad 0), .int x1, .int x2, .int x3, .int x4] σ r σ' := by
  refine gMi_of (cc := cX3_room) (maxL := 7) (by decide) rfl (Nat.le_of_ble_eq_true rfl) ?_
  intro p e s m args below meth c A Q ls hx hb hml hown hts hK hA hg hl hret
  have hown : s.vm.findClass RX3 = some m.cls := hown
  have hl : lv_has ls 7 [(0, .ref (ad 0)), (1, .int x1), (2, .int x2), (3, .int x3), (4, .int x4)] := hl
  have k_0 := hts (.fieldLink RX3 55 "FlowLedgerModel" "arcs" "I") (by decide +kernel)
  have k_1 := (by decide +kernel : ∀ w ∈ wsX30, w ∈ wsX3_room)
  have k_2 := hts (.fieldLink RX3 61 "FlowLedgerModel" "all" "I") (by decide +kernel)
  have k_3 := hts (.fieldLink RX3 41 "FlowLedgerModel" "allowed" "[Z") (by decide +kernel)
  have k_4 := hts (.fieldLink RX3 28 "FlowLedgerModel" "other" "[I") (by decide +kernel)
  have k_5 := hts (.fieldLink RX3 25 "FlowLedgerModel" "flow" "[I") (by decide +kernel)
  have k_6 := hts (.constant RX3 84 (-1000004)) (by decide +kernel)
  have L18 : ∀ (n : Nat) (x1 : Int32) (x2 : Int32) (x3 : Int32) (x4 : Int32) (x5 : Int32) (x6 : Int32) (σ : fl_St) (σo : fl_St) (H : Heap) (locs : List Loc) (ls : Array Slot), f_X3_room_l18 x1 x2 x3 x4 x5 n x6 σ = some (σo) → gS D (wm ad cz) A s.heap σ H locs → lv_has ls 7 [(0, .ref (ad 0)), (1, .int x1), (2, .int x2), (3, .int x3), (4, .int x4), (5, .int x5), (6, .int x6)] → (∀ (H : Heap) (locs : List Loc) (ls : Array Slot), gS D (wm ad cz) A s.heap σo H locs → lv_has ls 7 [(0, .ref (ad 0)), (2, .int x2), (3, .int x3), (4, .int x4)] → W p l e rm_X3_room s m args below meth c H locs 0 0 Q (F0 m 81 ls [])) → W p l e rm_X3_room s m args below meth c H locs 0 0 Q (F0 m 18 ls []) := by
    intro n
    induction n with
    | zero =>
      intro x1 x2 x3 x4 x5 x6 σ σo H locs ls h hg hl kk0
      rw [f_X3_room_l18] at h
      cases h
    | succ n ih =>
      intro x1 x2 x3 x4 x5 x6 σ σo H locs ls h hg hl kk0
      rw [f_X3_room_l18] at h
      refine lv_iload hx hb dX3_room_18 (lv_at hl 6 rfl) ?_
      refine lv_aload_n hx hb dX3_room_20 rfl (lv_at hl 0 rfl) ?_
      refine va_get (D := D) (ci := 3) (v := .int (σ 13 0)) (C := RX3) (T := TX3) (N := 16) hx hb hts k_1 hown hK.1 hg.1 0 rfl rfl 0 (by decide) k_0 (fun _ h9 => h9) rfl dX3_room_21 ?_
      refine lv_icmp_ge (tgt := 81) hx hb dX3_room_24 (by decide) (fun c6 => ?_) (fun c6 => ?_)
      · have h := fl_ifp c6 h
        obtain rfl := fl_s1 h
        exact kk0 H locs ls hg (lv_sub hl [0, 2, 3, 4] rfl)
      · have h := fl_ifn c6 h
        refine lv_aload_n hx hb dX3_room_27 rfl (lv_at hl 0 rfl) ?_
        refine va_get (D := D) (ci := 3) (v := .ref (ad 11)) (C := RX3) (T := TX3) (N := 16) hx hb hts k_1 hown hK.1 hg.1 0 rfl rfl 12 (by decide) k_3 (fun _ h9 => h9) rfl dX3_room_28 ?_
        refine lv_iload hx hb dX3_room_31 (lv_at hl 6 rfl) ?_
        refine lv_iload hx hb dX3_room_33 (lv_at hl 6 rfl) ?_
        refine lv_iload_n hx hb dX3_room_35 rfl (lv_at hl 1 rfl) ?_
        obtain ⟨t8, hB10, h⟩ := fl_bnd h
        have J9 : ∀ (H : Heap) (locs : List Loc) (ls : Array Slot), gS D (wm ad cz) A s.heap σ H locs → lv_has ls 7 [(0, .ref (ad 0)), (1, .int x1), (2, .int x2), (3, .int x3), (4, .int x4), (5, .int x5), (6, .int x6)] → W p l e rm_X3_room s m args below meth c H locs 0 0 Q (F0 m 60 ls [.int t8, .int x6, .ref (ad 11)]) := by
          intro H locs ls hg hl
          obtain ⟨z14, h⟩ := fl_bool h
          obtain ⟨σ11, i12, e13, h⟩ := fl_wr_b h
          refine g_stz (n := 36) (t0 := 10) hx hb hK hg (wm_a10 ad cz _) (wm_s10 ad cz _) rfl (fl_nar z14) i12 e13 dX3_room_60 (fun H locs hg => ?_)
          refine lv_aload_n hx hb dX3_room_61 rfl (lv_at hl 0 rfl) ?_
          refine va_get (D := D) (ci := 3) (v := .ref (ad 7)) (C := RX3) (T := TX3) (N := 16) hx hb hts k_1 hown hK.1 hg.1 0 rfl rfl 7 (by decide) k_4 (fun _ h9 => h9) rfl dX3_room_62 ?_
          refine lv_iload hx hb dX3_room_65 (lv_at hl 6 rfl) ?_
          refine lv_aload_n hx hb dX3_room_67 rfl (lv_at hl 0 rfl) ?_
          refine va_get (D := D) (ci := 3) (v := .ref (ad 6)) (C := RX3) (T := TX3) (N := 16) hx hb hts k_1 hown hK.1 hg.1 0 rfl rfl 6 (by decide) k_5 (fun _ h9 => h9) rfl dX3_room_68 ?_
          refine lv_iload hx hb dX3_room_71 (lv_at hl 6 rfl) ?_
          obtain ⟨v15, i16, e17, h⟩ := fl_rd_b h
          refine g_ld (n := 36) (t0 := 5) hx hb hK hg (wm_a5 ad cz _) rfl i16 e17 dX3_room_73 ?_
          obtain ⟨σ18, i19, e20, h⟩ := fl_wr_b h
          refine g_st (n := 36) (t0 := 6) hx hb hK hg (wm_a6 ad cz _) (wm_s6 ad cz _) rfl i19 e20 dX3_room_74 (fun H locs hg => ?_)
          refine lv_iinc (v := (x6 + 1)) (lv' := [(6, .int (x6 + 1)), (0, .ref (ad 0)), (1, .int x1), (2, .int x2), (3, .int x3), (4, .int x4), (5, .int x5)]) hx hb dX3_room_75 hl (k := 6) rfl rfl (by decide) rfl (fun ls hl => ?_)
          refine lv_goto (tgt := 18) hx hb dX3_room_78 (by decide) ?_
          exact ih _ _ _ _ _ _ _ _ _ _ _ h hg (lv_sub hl [1, 2, 3, 4, 5, 6, 0] rfl) kk0
        clear h
        have h := hB10
        refine lv_icmp_eq (tgt := 59) hx hb dX3_room_36 (by decide) (fun c7 => ?_) (fun c7 => ?_)
        · have h := fl_ifp c7 h
          refine lv_iconst (v := (0)) hx hb dX3_room_59 (by decide) ?_
          obtain rfl := fl_s1 h
          exact J9 H locs ls hg (lv_sub hl [0, 1, 2, 3, 4, 5, 6] rfl)
        · have h := fl_ifn c7 h
          refine lv_aload_n hx hb dX3_room_39 rfl (lv_at hl 0 rfl) ?_
          refine lv_iload hx hb dX3_room_40 (lv_at hl 6 rfl) ?_
          obtain ⟨r22, e21, h⟩ := fl_bnd h
          refine g_callVi (As := [.int x6]) (rest := [.int x6, .ref (ad 11)]) ⟨hx, hb, hml, hown, hts⟩ (c_X3_isFree l D ad cz (x6) (σ) e21) (cwV 1 hts gX3_room_X3_isFree rfl rfl rfl (by decide +kernel) ⟨Nat.le_of_ble_eq_true rfl, Nat.le_of_ble_eq_true rfl⟩) (va_recv hK.1 hg.1 (ci := 3) (q0 := 0) rfl rfl) hK hA hg rfl hl.1 rfl (Nat.le_of_ble_eq_true rfl) dX3_room_42 ⟨Nat.le_of_ble_eq_true rfl, Nat.le_of_ble_eq_true rfl⟩ (fun H locs hg => ?_)
          refine lv_if_eq (tgt := 59) hx hb dX3_room_45 (by decide) (fun c23 => ?_) (fun c23 => ?_)
          · have h := fl_ifp c23 h
            refine lv_iconst (v := (0)) hx hb dX3_room_59 (by decide) ?_
            obtain rfl := fl_s1 h
            exact J9 H locs ls hg (lv_sub hl [0, 1, 2, 3, 4, 5, 6] rfl)
          · have h := fl_ifn c23 h
            refine lv_iload hx hb dX3_room_48 (lv_at hl 5 rfl) ?_
            refine lv_ldc hx hb hown k_6 dX3_room_50 ?_
            refine lv_icmp_ne (tgt := 59) hx hb dX3_room_52 (by decide) (fun c24 => ?_) (fun c24 => ?_)
            · have h := fl_ifn c24 h
              refine lv_iconst (v := (0)) hx hb dX3_room_59 (by decide) ?_
              obtain rfl := fl_s1 h
              exact J9 H locs ls hg (lv_sub hl [0, 1, 2, 3, 4, 5, 6] rfl)
            · have h := fl_ifp c24 h
              refine lv_iconst (v := (1)) hx hb dX3_room_55 (by decide) ?_
              refine lv_goto (tgt := 60) hx hb dX3_room_56 (by decide) ?_
              obtain rfl := fl_s1 h
              exact J9 H locs ls hg (lv_sub hl [0, 1, 2, 3, 4, 5, 6] rfl)
  unfold f_X3_room at h
  have W0 : ∀ (H : Heap) (locs : List Loc), gS D (wm ad cz) A s.heap σ H locs → W p l e rm_X3_room s m args below meth c H locs 0 0 Q (F0 m 0 ls []) := by
    intro H locs hg
    refine lv_aload_n hx hb dX3_room_0 rfl (lv_at hl 0 rfl) ?_
    refine lv_iconst (v := (0)) hx hb dX3_room_1 (by decide) ?_
    obtain ⟨r2, σ3, e1, h⟩ := fl_b2_b h
    refine g_callVi (As := [.int (0)]) (rest := []) ⟨hx, hb, hml, hown, hts⟩ (c_X3_findRound l D ad cz ((0)) (σ) e1) (cwV 1 hts gX3_room_X3_findRound rfl rfl rfl (by decide +kernel) ⟨Nat.le_of_ble_eq_true rfl, Nat.le_of_ble_eq_true rfl⟩) (va_recv hK.1 hg.1 (ci := 3) (q0 := 0) rfl rfl) hK hA hg rfl hl.1 rfl (Nat.le_of_ble_eq_true rfl) dX3_room_2 ⟨Nat.le_of_ble_eq_true rfl, Nat.le_of_ble_eq_true rfl⟩ (fun H locs hg => ?_)
    refine lv_istore (lv' := [(5, .int r2), (0, .ref (ad 0)), (1, .int x1), (2, .int x2), (3, .int x3), (4, .int x4)]) hx hb dX3_room_5 hl (by decide) rfl (fun ls hl => ?_)
    refine lv_aload_n hx hb dX3_room_7 rfl (lv_at hl 1 rfl) ?_
    refine lv_aload_n hx hb dX3_room_8 rfl (lv_at hl 1 rfl) ?_
    refine va_get (D := D) (ci := 3) (v := .int (σ3 13 0)) (C := RX3) (T := TX3) (N := 16) hx hb hts k_1 hown hK.1 hg.1 0 rfl rfl 0 (by decide) k_0 (fun _ h9 => h9) rfl dX3_room_9 ?_
    obtain ⟨σ4, e5, h⟩ := fl_bnd h
    have e5 := fl_s1 e5
    refine g_put (σ' := σ4) (ci := 3) (C := RX3) (T := TX3) (N := 16) (z := (σ3 13 0)) hx hb hts k_1 tyX3 tyX3_ok nmX3 hown hK hg 0 rfl rfl 8 (by decide) k_2 (fun _ h9 => h9) rfl (by decide +kernel) (Nat.le_of_ble_eq_true rfl) (by rw [← e5]; exact wm_c1 ad cz _ _) dX3_room_12 (fun H locs hg => ?_)
    refine lv_iconst (v := (0)) hx hb dX3_room_15 (by decide) ?_
    refine lv_istore (lv' := [(6, .int (0)), (5, .int r2), (0, .ref (ad 0)), (1, .int x1), (2, .int x2), (3, .int x3), (4, .int x4)]) hx hb dX3_room_16 hl (by decide) rfl (fun ls hl => ?_)
    obtain ⟨σ25, hB26, h⟩ := fl_bnd h
    refine L18 fl_N _ _ _ _ _ _ _ _ H locs ls hB26 hg (lv_sub hl [2, 3, 4, 5, 6, 1, 0] rfl) (fun H locs ls hg hl => ?_)
    refine lv_iload hx hb dX3_room_81 (lv_at hl 3 rfl) ?_
    obtain ⟨t28, σ29, hB31, h⟩ := fl_b2_b h
    have J30 : ∀ (H : Heap) (locs : List Loc) (ls : Array Slot), gS D (wm ad cz) A s.heap σ29 H locs → lv_has ls 7 [] → W p l e rm_X3_room s m args below meth c H locs 0 0 Q (F0 m 102 ls [.int t28]) := by
      intro H locs ls hg hl
      exact hret _ _ _ _ _ _ h hg rfl dX3_room_102
    clear h
    have h := hB31
    refine lv_if_gt (tgt := 90) hx hb dX3_room_83 (by decide) (fun c27 => ?_) (fun c27 => ?_)
    · have h := fl_ifp c27 h
      refine lv_aload_n hx hb dX3_room_90 rfl (lv_at hl 0 rfl) ?_
      refine lv_aload_n hx hb dX3_room_91 rfl (lv_at hl 0 rfl) ?_
      refine va_get (D := D) (ci := 3) (v := .ref (ad 7)) (C := RX3) (T := TX3) (N := 16) hx hb hts k_1 hown hK.1 hg.1 0 rfl rfl 7 (by decide) k_4 (fun _ h9 => h9) rfl dX3_room_92 ?_
      refine lv_iload_n hx hb dX3_room_95 rfl (lv_at hl 1 rfl) ?_
      refine lv_iload_n hx hb dX3_room_96 rfl (lv_at hl 2 rfl) ?_
      refine lv_iload hx hb dX3_room_97 (lv_at hl 3 rfl) ?_
      obtain ⟨r33, σ34, e32, h⟩ := fl_b2_b h
      refine g_callVi (As := [.ref (ad 7), .int x2, .int x3, .int x4]) (rest := []) ⟨hx, hb, hml, hown, hts⟩ (c_X3_pushAll l D ad cz (Or.inr rfl) (x2) (x3) (x4) (σ25) e32) (cwV 4 hts gX3_room_X3_pushAll rfl rfl rfl (by decide +kernel) ⟨Nat.le_of_ble_eq_true rfl, Nat.le_of_ble_eq_true rfl⟩) (va_recv hK.1 hg.1 (ci := 3) (q0 := 0) rfl rfl) hK hA hg rfl hl.1 rfl (Nat.le_of_ble_eq_true rfl) dX3_room_99 ⟨Nat.le_of_ble_eq_true rfl, Nat.le_of_ble_eq_true rfl⟩ (fun H locs hg => ?_)
      obtain ⟨rfl, rfl⟩ := fl_s2 h
      exact J30 H locs ls hg (lv_sub hl [] rfl)
    · have h := fl_ifn c27 h
      refine lv_iconst (v := (0)) hx hb dX3_room_86 (by decide) ?_
      refine lv_goto (tgt := 102) hx hb dX3_room_87 (by decide) ?_
      obtain ⟨rfl, rfl⟩ := fl_s2 h
      exact J30 H locs ls hg (lv_sub hl [] rfl)
  exact W0 _ _ hg
def f_X3_least (x1 : Int32) (σ : fl_St) : Option (Int32 × fl_St) := (f_X3_in x1 (0) ((σ 13 0) - (1)) σ).bind fun r2 => if r2 = 0 then (some ((-1000000), σ)) else (fl_b2 (f_X3_solve  σ) fun r5 σ6 => if 0 ≤ r5 then (fl_b2 (f_X3_findRound (0) σ6) fun r9 σ10 => (f_X3_isFree x1 σ10).bind fun r12 => fl_b2 (if r12 = 0 then ((fl_rd σ10 5 36 x1).bind fun v18 => some (v18, σ10)) else ((fl_rd σ10 5 36 x1).bind fun v21 => (fl_rd σ10 0 36 x1).bind fun v24 => (fl_rd σ10 1 36 x1).bind fun v27 => (fl_rd σ10 5 36 x1).bind fun v30 => fl_b2 (f_X3_room x1 v24 v27 v30 σ10) fun r34 σ35 => some ((v21 - r34), σ35))) fun (t14 : Int32) (σ15 : fl_St) => some (t14, σ15)) else (some (r5, σ6)))
def rm_X3_least : Room := { frames := 5, cells := 0, slots := 0, locals := 124 }
set_option maxHeartbeats 4000000 in
set_option maxRecDepth 100000 in
theorem c_X3_least (l : Launch) (D : va_G) (ad : Nat → Nat) (cz : Nat → ClassId) (x1 : Int32) (σ : fl_St) {r : Int32} {σ' : fl_St} (h : f_X3_least x1 σ = some (r, σ')) : gMi l yX3_least wsX3_least rm_X3_least D (wm ad cz) (wmT cz) [] [.ref (ad 0), .int x1] σ r σ' := by
  refine gMi_of (cc := cX3_least) (maxL := 3) (by decide) rfl (Nat.le_of_ble_eq_true rfl) ?_
  intro p e s m args below meth c A Q ls hx hb hml hown hts hK hA hg hl hret
  have hown : s.vm.findClass RX3 = some m.cls := hown
  have hl : lv_has ls 3 [(0, .ref (ad 0)), (1, .int x1)] := hl
  have k_0 := hts (.fieldLink RX3 55 "FlowLedgerModel" "arcs" "I") (by decide +kernel)
  have k_1 := (by decide +kernel : ∀ w ∈ wsX30, w ∈ wsX3_least)
  have k_2 := hts (.fieldLink RX3 25 "FlowLedgerModel" "flow" "[I") (by decide +kernel)
  have k_3 := hts (.fieldLink RX3 7 "FlowLedgerModel" "froms" "[I") (by decide +kernel)
  have k_4 := hts (.fieldLink RX3 13 "FlowLedgerModel" "tos" "[I") (by decide +kernel)
  have k_5 := hts (.constant RX3 54 (-1000000)) (by decide +kernel)
  unfold f_X3_least at h
  have W0 : ∀ (H : Heap) (locs : List Loc), gS D (wm ad cz) A s.heap σ H locs → W p l e rm_X3_least s m args below meth c H locs 0 0 Q (F0 m 0 ls []) := by
    intro H locs hg
    refine lv_iload_n hx hb dX3_least_0 rfl (lv_at hl 1 rfl) ?_
    refine lv_iconst (v := (0)) hx hb dX3_least_1 (by decide) ?_
    refine lv_aload_n hx hb dX3_least_2 rfl (lv_at hl 0 rfl) ?_
    refine va_get (D := D) (ci := 3) (v := .int (σ 13 0)) (C := RX3) (T := TX3) (N := 16) hx hb hts k_1 hown hK.1 hg.1 0 rfl rfl 0 (by decide) k_0 (fun _ h9 => h9) rfl dX3_least_3 ?_
    refine lv_iconst (v := (1)) hx hb dX3_least_6 (by decide) ?_
    refine lv_isub hx hb dX3_least_7 ?_
    obtain ⟨r2, e1, h⟩ := fl_bnd h
    refine g_callSi (As := [.int x1, .int (0), .int ((σ 13 0) - (1))]) (rest := []) ⟨hx, hb, hml, hown, hts⟩ (c_X3_in l D ad cz (x1) ((0)) (((σ 13 0) - (1))) (σ) e1) (cwS 3 hts gX3_least_X3_in rfl rfl rfl (by decide +kernel) ⟨Nat.le_of_ble_eq_true rfl, Nat.le_of_ble_eq_true rfl⟩) hK hA hg rfl hl.1 rfl (Nat.le_of_ble_eq_true rfl) dX3_least_8 ⟨Nat.le_of_ble_eq_true rfl, Nat.le_of_ble_eq_true rfl⟩ (fun H locs hg => ?_)
    refine lv_if_ne (tgt := 17) hx hb dX3_least_11 (by decide) (fun c3 => ?_) (fun c3 => ?_)
    · have h := fl_ifn c3 h
      refine lv_aload_n hx hb dX3_least_17 rfl (lv_at hl 0 rfl) ?_
      obtain ⟨r5, σ6, e4, h⟩ := fl_b2_b h
      refine g_callVi (As := []) (rest := []) ⟨hx, hb, hml, hown, hts⟩ (c_X3_solve l D ad cz (σ) e4) (cwV 0 hts gX3_least_X3_solve rfl rfl rfl (by decide +kernel) ⟨Nat.le_of_ble_eq_true rfl, Nat.le_of_ble_eq_true rfl⟩) (va_recv hK.1 hg.1 (ci := 3) (q0 := 0) rfl rfl) hK hA hg rfl hl.1 rfl (Nat.le_of_ble_eq_true rfl) dX3_least_18 ⟨Nat.le_of_ble_eq_true rfl, Nat.le_of_ble_eq_true rfl⟩ (fun H locs hg => ?_)
      refine lv_istore_n (lv' := [(2, .int r5), (0, .ref (ad 0)), (1, .int x1)]) hx hb dX3_least_21 rfl hl (by decide) rfl (fun ls hl => ?_)
      refine lv_iload_n hx hb dX3_least_22 rfl (lv_at hl 0 rfl) ?_
      refine lv_if_ge (tgt := 28) hx hb dX3_least_23 (by decide) (fun c7 => ?_) (fun c7 => ?_)
      · have h := fl_ifp c7 h
        refine lv_aload_n hx hb dX3_least_28 rfl (lv_at hl 1 rfl) ?_
        refine lv_iconst (v := (0)) hx hb dX3_least_29 (by decide) ?_
        obtain ⟨r9, σ10, e8, h⟩ := fl_b2_b h
        refine g_callVi (As := [.int (0)]) (rest := []) ⟨hx, hb, hml, hown, hts⟩ (c_X3_findRound l D ad cz ((0)) (σ6) e8) (cwV 1 hts gX3_least_X3_findRound rfl rfl rfl (by decide +kernel) ⟨Nat.le_of_ble_eq_true rfl, Nat.le_of_ble_eq_true rfl⟩) (va_recv hK.1 hg.1 (ci := 3) (q0 := 0) rfl rfl) hK hA hg rfl hl.1 rfl (Nat.le_of_ble_eq_true rfl) dX3_least_30 ⟨Nat.le_of_ble_eq_true rfl, Nat.le_of_ble_eq_true rfl⟩ (fun H locs hg => ?_)
        refine lv_pop hx hb dX3_least_33 rfl ?_
        refine lv_aload_n hx hb dX3_least_34 rfl (lv_at hl 1 rfl) ?_
        refine lv_iload_n hx hb dX3_least_35 rfl (lv_at hl 2 rfl) ?_
        obtain ⟨r12, e11, h⟩ := fl_bnd h
        refine g_callVi (As := [.int x1]) (rest := []) ⟨hx, hb, hml, hown, hts⟩ (c_X3_isFree l D ad cz (x1) (σ10) e11) (cwV 1 hts gX3_least_X3_isFree rfl rfl rfl (by decide +kernel) ⟨Nat.le_of_ble_eq_true rfl, Nat.le_of_ble_eq_true rfl⟩) (va_recv hK.1 hg.1 (ci := 3) (q0 := 0) rfl rfl) hK hA hg rfl hl.1 rfl (Nat.le_of_ble_eq_true rfl) dX3_least_36 ⟨Nat.le_of_ble_eq_true rfl, Nat.le_of_ble_eq_true rfl⟩ (fun H locs hg => ?_)
        obtain ⟨t14, σ15, hB17, h⟩ := fl_b2_b h
        have J16 : ∀ (H : Heap) (locs : List Loc) (ls : Array Slot), gS D (wm ad cz) A s.heap σ15 H locs → lv_has ls 3 [] → W p l e rm_X3_least s m args below meth c H locs 0 0 Q (F0 m 81 ls [.int t14]) := by
          intro H locs ls hg hl
          exact hret _ _ _ _ _ _ h hg rfl dX3_least_81
        clear h
        have h := hB17
        refine lv_if_eq (tgt := 75) hx hb dX3_least_39 (by decide) (fun c13 => ?_) (fun c13 => ?_)
        · have h := fl_ifp c13 h
          refine lv_aload_n hx hb dX3_least_75 rfl (lv_at hl 1 rfl) ?_
          refine va_get (D := D) (ci := 3) (v := .ref (ad 6)) (C := RX3) (T := TX3) (N := 16) hx hb hts k_1 hown hK.1 hg.1 0 rfl rfl 6 (by decide) k_2 (fun _ h9 => h9) rfl dX3_least_76 ?_
          refine lv_iload_n hx hb dX3_least_79 rfl (lv_at hl 2 rfl) ?_
          obtain ⟨v18, i19, e20, h⟩ := fl_rd_b h
          refine g_ld (n := 36) (t0 := 5) hx hb hK hg (wm_a5 ad cz _) rfl i19 e20 dX3_least_80 ?_
          obtain ⟨rfl, rfl⟩ := fl_s2 h
          exact J16 H locs ls hg (lv_sub hl [] rfl)
        · have h := fl_ifn c13 h
          refine lv_aload_n hx hb dX3_least_42 rfl (lv_at hl 1 rfl) ?_
          refine va_get (D := D) (ci := 3) (v := .ref (ad 6)) (C := RX3) (T := TX3) (N := 16) hx hb hts k_1 hown hK.1 hg.1 0 rfl rfl 6 (by decide) k_2 (fun _ h9 => h9) rfl dX3_least_43 ?_
          refine lv_iload_n hx hb dX3_least_46 rfl (lv_at hl 2 rfl) ?_
          obtain ⟨v21, i22, e23, h⟩ := fl_rd_b h
          refine g_ld (n := 36) (t0 := 5) hx hb hK hg (wm_a5 ad cz _) rfl i22 e23 dX3_least_47 ?_
          refine lv_aload_n hx hb dX3_least_48 rfl (lv_at hl 1 rfl) ?_
          refine lv_iload_n hx hb dX3_least_49 rfl (lv_at hl 2 rfl) ?_
          refine lv_aload_n hx hb dX3_least_50 rfl (lv_at hl 1 rfl) ?_
          refine va_get (D := D) (ci := 3) (v := .ref (ad 1)) (C := RX3) (T := TX3) (N := 16) hx hb hts k_1 hown hK.1 hg.1 0 rfl rfl 1 (by decide) k_3 (fun _ h9 => h9) rfl dX3_least_51 ?_
          refine lv_iload_n hx hb dX3_least_54 rfl (lv_at hl 2 rfl) ?_
          obtain ⟨v24, i25, e26, h⟩ := fl_rd_b h
          refine g_ld (n := 36) (t0 := 0) hx hb hK hg (wm_a0 ad cz _) rfl i25 e26 dX3_least_55 ?_
          refine lv_aload_n hx hb dX3_least_56 rfl (lv_at hl 1 rfl) ?_
          refine va_get (D := D) (ci := 3) (v := .ref (ad 2)) (C := RX3) (T := TX3) (N := 16) hx hb hts k_1 hown hK.1 hg.1 0 rfl rfl 2 (by decide) k_4 (fun _ h9 => h9) rfl dX3_least_57 ?_
          refine lv_iload_n hx hb dX3_least_60 rfl (lv_at hl 2 rfl) ?_
          obtain ⟨v27, i28, e29, h⟩ := fl_rd_b h
          refine g_ld (n := 36) (t0 := 1) hx hb hK hg (wm_a1 ad cz _) rfl i28 e29 dX3_least_61 ?_
          refine lv_aload_n hx hb dX3_least_62 rfl (lv_at hl 1 rfl) ?_
          refine va_get (D := D) (ci := 3) (v := .ref (ad 6)) (C := RX3) (T := TX3) (N := 16) hx hb hts k_1 hown hK.1 hg.1 0 rfl rfl 6 (by decide) k_2 (fun _ h9 => h9) rfl dX3_least_63 ?_
          refine lv_iload_n hx hb dX3_least_66 rfl (lv_at hl 2 rfl) ?_
          obtain ⟨v30, i31, e32, h⟩ := fl_rd_b h
          refine g_ld (n := 36) (t0 := 5) hx hb hK hg (wm_a5 ad cz _) rfl i31 e32 dX3_least_67 ?_
          obtain ⟨r34, σ35, e33, h⟩ := fl_b2_b h
          refine g_callVi (As := [.int x1, .int v24, .int v27, .int v30]) (rest := [.int v21]) ⟨hx, hb, hml, hown, hts⟩ (c_X3_room l D ad cz (x1) (v24) (v27) (v30) (σ10) e33) (cwV 4 hts gX3_least_X3_room rfl rfl rfl (by decide +kernel) ⟨Nat.le_of_ble_eq_true rfl, Nat.le_of_ble_eq_true rfl⟩) (va_recv hK.1 hg.1 (ci := 3) (q0 := 0) rfl rfl) hK hA hg rfl hl.1 rfl (Nat.le_of_ble_eq_true rfl) dX3_least_68 ⟨Nat.le_of_ble_eq_true rfl, Nat.le_of_ble_eq_true rfl⟩ (fun H locs hg => ?_)
          refine lv_isub hx hb dX3_least_71 ?_
          refine lv_goto (tgt := 81) hx hb dX3_least_72 (by decide) ?_
          obtain ⟨rfl, rfl⟩ := fl_s2 h
          exact J16 H locs ls hg (lv_sub hl [] rfl)
      · have h := fl_ifn c7 h
        refine lv_iload_n hx hb dX3_least_26 rfl (lv_at hl 0 rfl) ?_
        exact hret _ _ _ _ _ _ h hg rfl dX3_least_27
    · have h := fl_ifp c3 h
      refine lv_ldc hx hb hown k_5 dX3_least_14 ?_
      exact hret _ _ _ _ _ _ h hg rfl dX3_least_16
  exact W0 _ _ hg
def f_X3_mostOf (x1 : Int32) (σ : fl_St) : Option (Int32 × fl_St) := fl_b2 (f_X3_findRound (0) σ) fun r2 σ3 => (f_X3_isFree x1 σ3).bind fun r5 => if r5 = 0 then ((fl_rd σ3 5 36 x1).bind fun v29 => some (v29, σ3)) else ((fl_rd σ3 1 36 x1).bind fun v7 => (fl_rd σ3 0 36 x1).bind fun v10 => (fl_rd σ3 2 36 x1).bind fun v13 => (fl_rd σ3 5 36 x1).bind fun v16 => fl_b2 (f_X3_room x1 v7 v10 (v13 - v16) σ3) fun r20 σ21 => (if r20 < (500000) then ((fl_rd σ21 5 36 x1).bind fun v26 => some ((v26 + r20))) else (some ((-1000004)))).bind fun (t23 : Int32) => some (t23, σ21))
def rm_X3_mostOf : Room := { frames := 4, cells := 0, slots := 0, locals := 105 }
set_option maxHeartbeats 4000000 in
set_option maxRecDepth 100000 in
theorem c_X3_mostOf (l : Launch) (D : va_G) (ad : Nat → Nat) (cz : Nat → ClassId) (x1 : Int32) (σ : fl_St) {r : Int32} {σ' : fl_St} (h : f_X3_mostOf x1 σ = some (r, σ')) : gMi l yX3_mostOf wsX3_mostOf rm_X3_mostOf D (wm ad cz) (wmT cz) [] [.ref (ad 0), .int x1] σ r σ' := by
  refine gMi_of (cc := cX3_mostOf) (maxL := 3) (by decide) rfl (Nat.le_of_ble_eq_true rfl) ?_
  intro p e s m args below meth c A Q ls hx hb hml hown hts hK hA hg hl hret
  have hown : s.vm.findClass RX3 = some m.cls := hown
  have hl : lv_has ls 3 [(0, .ref (ad 0)), (1, .int x1)] := hl
  have k_0 := hts (.fieldLink RX3 13 "FlowLedgerModel" "tos" "[I") (by decide +kernel)
  have k_1 := (by decide +kernel : ∀ w ∈ wsX30, w ∈ wsX3_mostOf)
  have k_2 := hts (.fieldLink RX3 7 "FlowLedgerModel" "froms" "[I") (by decide +kernel)
  have k_3 := hts (.fieldLink RX3 16 "FlowLedgerModel" "capacities" "[I") (by decide +kernel)
  have k_4 := hts (.fieldLink RX3 25 "FlowLedgerModel" "flow" "[I") (by decide +kernel)
  have k_5 := hts (.constant RX3 85 (500000)) (by decide +kernel)
  have k_6 := hts (.constant RX3 84 (-1000004)) (by decide +kernel)
  unfold f_X3_mostOf at h
  have W0 : ∀ (H : Heap) (locs : List Loc), gS D (wm ad cz) A s.heap σ H locs → W p l e rm_X3_mostOf s m args below meth c H locs 0 0 Q (F0 m 0 ls []) := by
    intro H locs hg
    refine lv_aload_n hx hb dX3_mostOf_0 rfl (lv_at hl 0 rfl) ?_
    refine lv_iconst (v := (0)) hx hb dX3_mostOf_1 (by decide) ?_
    obtain ⟨r2, σ3, e1, h⟩ := fl_b2_b h
    refine g_callVi (As := [.int (0)]) (rest := []) ⟨hx, hb, hml, hown, hts⟩ (c_X3_findRound l D ad cz ((0)) (σ) e1) (cwV 1 hts gX3_mostOf_X3_findRound rfl rfl rfl (by decide +kernel) ⟨Nat.le_of_ble_eq_true rfl, Nat.le_of_ble_eq_true rfl⟩) (va_recv hK.1 hg.1 (ci := 3) (q0 := 0) rfl rfl) hK hA hg rfl hl.1 rfl (Nat.le_of_ble_eq_true rfl) dX3_mostOf_2 ⟨Nat.le_of_ble_eq_true rfl, Nat.le_of_ble_eq_true rfl⟩ (fun H locs hg => ?_)
    refine lv_pop hx hb dX3_mostOf_5 rfl ?_
    refine lv_aload_n hx hb dX3_mostOf_6 rfl (lv_at hl 0 rfl) ?_
    refine lv_iload_n hx hb dX3_mostOf_7 rfl (lv_at hl 1 rfl) ?_
    obtain ⟨r5, e4, h⟩ := fl_bnd h
    refine g_callVi (As := [.int x1]) (rest := []) ⟨hx, hb, hml, hown, hts⟩ (c_X3_isFree l D ad cz (x1) (σ3) e4) (cwV 1 hts gX3_mostOf_X3_isFree rfl rfl rfl (by decide +kernel) ⟨Nat.le_of_ble_eq_true rfl, Nat.le_of_ble_eq_true rfl⟩) (va_recv hK.1 hg.1 (ci := 3) (q0 := 0) rfl rfl) hK hA hg rfl hl.1 rfl (Nat.le_of_ble_eq_true rfl) dX3_mostOf_8 ⟨Nat.le_of_ble_eq_true rfl, Nat.le_of_ble_eq_true rfl⟩ (fun H locs hg => ?_)
    refine lv_if_ne (tgt := 21) hx hb dX3_mostOf_11 (by decide) (fun c6 => ?_) (fun c6 => ?_)
    · have h := fl_ifn c6 h
      refine lv_aload_n hx hb dX3_mostOf_21 rfl (lv_at hl 0 rfl) ?_
      refine lv_iload_n hx hb dX3_mostOf_22 rfl (lv_at hl 1 rfl) ?_
      refine lv_aload_n hx hb dX3_mostOf_23 rfl (lv_at hl 0 rfl) ?_
      refine va_get (D := D) (ci := 3) (v := .ref (ad 2)) (C := RX3) (T := TX3) (N := 16) hx hb hts k_1 hown hK.1 hg.1 0 rfl rfl 2 (by decide) k_0 (fun _ h9 => h9) rfl dX3_mostOf_24 ?_
      refine lv_iload_n hx hb dX3_mostOf_27 rfl (lv_at hl 1 rfl) ?_
      obtain ⟨v7, i8, e9, h⟩ := fl_rd_b h
      refine g_ld (n := 36) (t0 := 1) hx hb hK hg (wm_a1 ad cz _) rfl i8 e9 dX3_mostOf_28 ?_
      refine lv_aload_n hx hb dX3_mostOf_29 rfl (lv_at hl 0 rfl) ?_
      refine va_get (D := D) (ci := 3) (v := .ref (ad 1)) (C := RX3) (T := TX3) (N := 16) hx hb hts k_1 hown hK.1 hg.1 0 rfl rfl 1 (by decide) k_2 (fun _ h9 => h9) rfl dX3_mostOf_30 ?_
      refine lv_iload_n hx hb dX3_mostOf_33 rfl (lv_at hl 1 rfl) ?_
      obtain ⟨v10, i11, e12, h⟩ := fl_rd_b h
      refine g_ld (n := 36) (t0 := 0) hx hb hK hg (wm_a0 ad cz _) rfl i11 e12 dX3_mostOf_34 ?_
      refine lv_aload_n hx hb dX3_mostOf_35 rfl (lv_at hl 0 rfl) ?_
      refine va_get (D := D) (ci := 3) (v := .ref (ad 3)) (C := RX3) (T := TX3) (N := 16) hx hb hts k_1 hown hK.1 hg.1 0 rfl rfl 3 (by decide) k_3 (fun _ h9 => h9) rfl dX3_mostOf_36 ?_
      refine lv_iload_n hx hb dX3_mostOf_39 rfl (lv_at hl 1 rfl) ?_
      obtain ⟨v13, i14, e15, h⟩ := fl_rd_b h
      refine g_ld (n := 36) (t0 := 2) hx hb hK hg (wm_a2 ad cz _) rfl i14 e15 dX3_mostOf_40 ?_
      refine lv_aload_n hx hb dX3_mostOf_41 rfl (lv_at hl 0 rfl) ?_
      refine va_get (D := D) (ci := 3) (v := .ref (ad 6)) (C := RX3) (T := TX3) (N := 16) hx hb hts k_1 hown hK.1 hg.1 0 rfl rfl 6 (by decide) k_4 (fun _ h9 => h9) rfl dX3_mostOf_42 ?_
      refine lv_iload_n hx hb dX3_mostOf_45 rfl (lv_at hl 1 rfl) ?_
      obtain ⟨v16, i17, e18, h⟩ := fl_rd_b h
      refine g_ld (n := 36) (t0 := 5) hx hb hK hg (wm_a5 ad cz _) rfl i17 e18 dX3_mostOf_46 ?_
      refine lv_isub hx hb dX3_mostOf_47 ?_
      obtain ⟨r20, σ21, e19, h⟩ := fl_b2_b h
      refine g_callVi (As := [.int x1, .int v7, .int v10, .int (v13 - v16)]) (rest := []) ⟨hx, hb, hml, hown, hts⟩ (c_X3_room l D ad cz (x1) (v7) (v10) ((v13 - v16)) (σ3) e19) (cwV 4 hts gX3_mostOf_X3_room rfl rfl rfl (by decide +kernel) ⟨Nat.le_of_ble_eq_true rfl, Nat.le_of_ble_eq_true rfl⟩) (va_recv hK.1 hg.1 (ci := 3) (q0 := 0) rfl rfl) hK hA hg rfl hl.1 rfl (Nat.le_of_ble_eq_true rfl) dX3_mostOf_48 ⟨Nat.le_of_ble_eq_true rfl, Nat.le_of_ble_eq_true rfl⟩ (fun H locs hg => ?_)
      refine lv_istore_n (lv' := [(2, .int r20), (0, .ref (ad 0)), (1, .int x1)]) hx hb dX3_mostOf_51 rfl hl (by decide) rfl (fun ls hl => ?_)
      refine lv_iload_n hx hb dX3_mostOf_52 rfl (lv_at hl 0 rfl) ?_
      refine lv_ldc hx hb hown k_5 dX3_mostOf_53 ?_
      obtain ⟨t23, hB25, h⟩ := fl_bnd h
      have J24 : ∀ (H : Heap) (locs : List Loc) (ls : Array Slot), gS D (wm ad cz) A s.heap σ21 H locs → lv_has ls 3 [] → W p l e rm_X3_mostOf s m args below meth c H locs 0 0 Q (F0 m 71 ls [.int t23]) := by
        intro H locs ls hg hl
        exact hret _ _ _ _ _ _ h hg rfl dX3_mostOf_71
      clear h
      have h := hB25
      refine lv_icmp_lt (tgt := 63) hx hb dX3_mostOf_55 (by decide) (fun c22 => ?_) (fun c22 => ?_)
      · have h := fl_ifp c22 h
        refine lv_aload_n hx hb dX3_mostOf_63 rfl (lv_at hl 1 rfl) ?_
        refine va_get (D := D) (ci := 3) (v := .ref (ad 6)) (C := RX3) (T := TX3) (N := 16) hx hb hts k_1 hown hK.1 hg.1 0 rfl rfl 6 (by decide) k_4 (fun _ h9 => h9) rfl dX3_mostOf_64 ?_
        refine lv_iload_n hx hb dX3_mostOf_67 rfl (lv_at hl 2 rfl) ?_
        obtain ⟨v26, i27, e28, h⟩ := fl_rd_b h
        refine g_ld (n := 36) (t0 := 5) hx hb hK hg (wm_a5 ad cz _) rfl i27 e28 dX3_mostOf_68 ?_
        refine lv_iload_n hx hb dX3_mostOf_69 rfl (lv_at hl 0 rfl) ?_
        refine lv_iadd hx hb dX3_mostOf_70 ?_
        obtain rfl := fl_s1 h
        exact J24 H locs ls hg (lv_sub hl [] rfl)
      · have h := fl_ifn c22 h
        refine lv_ldc hx hb hown k_6 dX3_mostOf_58 ?_
        refine lv_goto (tgt := 71) hx hb dX3_mostOf_60 (by decide) ?_
        obtain rfl := fl_s1 h
        exact J24 H locs ls hg (lv_sub hl [] rfl)
    · have h := fl_ifp c6 h
      refine lv_aload_n hx hb dX3_mostOf_14 rfl (lv_at hl 0 rfl) ?_
      refine va_get (D := D) (ci := 3) (v := .ref (ad 6)) (C := RX3) (T := TX3) (N := 16) hx hb hts k_1 hown hK.1 hg.1 0 rfl rfl 6 (by decide) k_4 (fun _ h9 => h9) rfl dX3_mostOf_15 ?_
      refine lv_iload_n hx hb dX3_mostOf_18 rfl (lv_at hl 1 rfl) ?_
      obtain ⟨v29, i30, e31, h⟩ := fl_rd_b h
      refine g_ld (n := 36) (t0 := 5) hx hb hK hg (wm_a5 ad cz _) rfl i30 e31 dX3_mostOf_19 ?_
      exact hret _ _ _ _ _ _ h hg rfl dX3_mostOf_20
  exact W0 _ _ hg
def f_X3_most (x1 : Int32) (σ : fl_St) : Option (Int32 × fl_St) := (f_X3_in x1 (0) ((σ 13 0) - (1)) σ).bind fun r2 => if r2 = 0 then (some ((-1000000), σ)) else (fl_b2 (f_X3_solve  σ) fun r5 σ6 => fl_b2 (if 0 ≤ r5 then (fl_b2 (f_X3_mostOf x1 σ6) fun r13 σ14 => some (r13, σ14)) else (some (r5, σ6))) fun (t8 : Int32) (σ9 : fl_St) => some (t8, σ9))
def rm_X3_most : Room := { frames := 5, cells := 0, slots := 0, locals := 127 }
set_option maxHeartbeats 4000000 in
set_option maxRecDepth 100000 in
theorem c_X3_most (l : Launch) (D : va_G) (ad : Nat → Nat) (cz : Nat → ClassId) (x1 : Int32) (σ : fl_St) {r : Int32} {σ' : fl_St} (h : f_X3_most x1 σ = some (r, σ')) : gMi l yX3_most wsX3_most rm_X3_most D (wm ad cz) (wmT cz) [] [.ref (ad 0), .int x1] σ r σ' := by
  refine gMi_of (cc := cX3_most) (maxL := 3) (by decide) rfl (Nat.le_of_ble_eq_true rfl) ?_
  intro p e s m args below meth c A Q ls hx hb hml hown hts hK hA hg hl hret
  have hown : s.vm.findClass RX3 = some m.cls := hown
  have hl : lv_has ls 3 [(0, .ref (ad 0)), (1, .int x1)] := hl
  have k_0 := hts (.fieldLink RX3 55 "FlowLedgerModel" "arcs" "I") (by decide +kernel)
  have k_1 := (by decide +kernel : ∀ w ∈ wsX30, w ∈ wsX3_most)
  have k_2 := hts (.constant RX3 54 (-1000000)) (by decide +kernel)
  unfold f_X3_most at h
  have W0 : ∀ (H : Heap) (locs : List Loc), gS D (wm ad cz) A s.heap σ H locs → W p l e rm_X3_most s m args below meth c H locs 0 0 Q (F0 m 0 ls []) := by
    intro H locs hg
    refine lv_iload_n hx hb dX3_most_0 rfl (lv_at hl 1 rfl) ?_
    refine lv_iconst (v := (0)) hx hb dX3_most_1 (by decide) ?_
    refine lv_aload_n hx hb dX3_most_2 rfl (lv_at hl 0 rfl) ?_
    refine va_get (D := D) (ci := 3) (v := .int (σ 13 0)) (C := RX3) (T := TX3) (N := 16) hx hb hts k_1 hown hK.1 hg.1 0 rfl rfl 0 (by decide) k_0 (fun _ h9 => h9) rfl dX3_most_3 ?_
    refine lv_iconst (v := (1)) hx hb dX3_most_6 (by decide) ?_
    refine lv_isub hx hb dX3_most_7 ?_
    obtain ⟨r2, e1, h⟩ := fl_bnd h
    refine g_callSi (As := [.int x1, .int (0), .int ((σ 13 0) - (1))]) (rest := []) ⟨hx, hb, hml, hown, hts⟩ (c_X3_in l D ad cz (x1) ((0)) (((σ 13 0) - (1))) (σ) e1) (cwS 3 hts gX3_most_X3_in rfl rfl rfl (by decide +kernel) ⟨Nat.le_of_ble_eq_true rfl, Nat.le_of_ble_eq_true rfl⟩) hK hA hg rfl hl.1 rfl (Nat.le_of_ble_eq_true rfl) dX3_most_8 ⟨Nat.le_of_ble_eq_true rfl, Nat.le_of_ble_eq_true rfl⟩ (fun H locs hg => ?_)
    refine lv_if_ne (tgt := 17) hx hb dX3_most_11 (by decide) (fun c3 => ?_) (fun c3 => ?_)
    · have h := fl_ifn c3 h
      refine lv_aload_n hx hb dX3_most_17 rfl (lv_at hl 0 rfl) ?_
      obtain ⟨r5, σ6, e4, h⟩ := fl_b2_b h
      refine g_callVi (As := []) (rest := []) ⟨hx, hb, hml, hown, hts⟩ (c_X3_solve l D ad cz (σ) e4) (cwV 0 hts gX3_most_X3_solve rfl rfl rfl (by decide +kernel) ⟨Nat.le_of_ble_eq_true rfl, Nat.le_of_ble_eq_true rfl⟩) (va_recv hK.1 hg.1 (ci := 3) (q0 := 0) rfl rfl) hK hA hg rfl hl.1 rfl (Nat.le_of_ble_eq_true rfl) dX3_most_18 ⟨Nat.le_of_ble_eq_true rfl, Nat.le_of_ble_eq_true rfl⟩ (fun H locs hg => ?_)
      refine lv_istore_n (lv' := [(2, .int r5), (0, .ref (ad 0)), (1, .int x1)]) hx hb dX3_most_21 rfl hl (by decide) rfl (fun ls hl => ?_)
      refine lv_iload_n hx hb dX3_most_22 rfl (lv_at hl 0 rfl) ?_
      obtain ⟨t8, σ9, hB11, h⟩ := fl_b2_b h
      have J10 : ∀ (H : Heap) (locs : List Loc) (ls : Array Slot), gS D (wm ad cz) A s.heap σ9 H locs → lv_has ls 3 [] → W p l e rm_X3_most s m args below meth c H locs 0 0 Q (F0 m 35 ls [.int t8]) := by
        intro H locs ls hg hl
        exact hret _ _ _ _ _ _ h hg rfl dX3_most_35
      clear h
      have h := hB11
      refine lv_if_ge (tgt := 30) hx hb dX3_most_23 (by decide) (fun c7 => ?_) (fun c7 => ?_)
      · have h := fl_ifp c7 h
        refine lv_aload_n hx hb dX3_most_30 rfl (lv_at hl 1 rfl) ?_
        refine lv_iload_n hx hb dX3_most_31 rfl (lv_at hl 2 rfl) ?_
        obtain ⟨r13, σ14, e12, h⟩ := fl_b2_b h
        refine g_callVi (As := [.int x1]) (rest := []) ⟨hx, hb, hml, hown, hts⟩ (c_X3_mostOf l D ad cz (x1) (σ6) e12) (cwV 1 hts gX3_most_X3_mostOf rfl rfl rfl (by decide +kernel) ⟨Nat.le_of_ble_eq_true rfl, Nat.le_of_ble_eq_true rfl⟩) (va_recv hK.1 hg.1 (ci := 3) (q0 := 0) rfl rfl) hK hA hg rfl hl.1 rfl (Nat.le_of_ble_eq_true rfl) dX3_most_32 ⟨Nat.le_of_ble_eq_true rfl, Nat.le_of_ble_eq_true rfl⟩ (fun H locs hg => ?_)
        obtain ⟨rfl, rfl⟩ := fl_s2 h
        exact J10 H locs ls hg (lv_sub hl [] rfl)
      · have h := fl_ifn c7 h
        refine lv_iload_n hx hb dX3_most_26 rfl (lv_at hl 0 rfl) ?_
        refine lv_goto (tgt := 35) hx hb dX3_most_27 (by decide) ?_
        obtain ⟨rfl, rfl⟩ := fl_s2 h
        exact J10 H locs ls hg (lv_sub hl [] rfl)
    · have h := fl_ifp c3 h
      refine lv_ldc hx hb hown k_2 dX3_most_14 ?_
      exact hret _ _ _ _ _ _ h hg rfl dX3_most_16
  exact W0 _ _ hg
def f_X3_slack_l55 (x1 : Int32) (x3 : Int32) (x4 : Int32) (x5 : Int32) : Nat → Int32 → Int32 → fl_St → Option (Int32 × fl_St)
  | 0, _, _, _ => none
  | n + 1, x6, x7, σ => if x7 ≤ 0 then (some (x6, σ)) else (if x6 = 0 then (if x4 = (-1000004) then (some (x6, σ)) else ((fl_wr σ 3 36 x1 (x5 - x7)).bind fun σ17 => fl_b2 (f_X3_solve  σ17) fun r21 σ22 => (if r21 = 0 then (if (σ22 13 2) = (x3 - (x7 * x4)) then (some (x7)) else (some ((0)))) else (some ((0)))).bind fun (t24 : Int32) => f_X3_slack_l55 x1 x3 x4 x5 n t24 (x7 + (-1)) σ22)) else (some (x6, σ)))
def f_X3_slack (x1 : Int32) (σ : fl_St) : Option (Int32 × fl_St) := (f_X3_in x1 (0) ((σ 13 0) - (1)) σ).bind fun r2 => if r2 = 0 then (some ((-1000000), σ)) else (fl_b2 (f_X3_solve  σ) fun r5 σ6 => if 0 ≤ r5 then (fl_b2 (f_X3_mostOf x1 σ6) fun r9 σ10 => (fl_rd σ10 3 36 x1).bind fun v11 => fl_b2 (f_X3_slack_l55 x1 (σ6 13 2) r9 v11 fl_N (0) (40) σ10) fun (w28 : Int32) (σ29 : fl_St) => (fl_wr σ29 3 36 x1 v11).bind fun σ31 => some (w28, σ31)) else (some (r5, σ6)))
def rm_X3_slack : Room := { frames := 5, cells := 0, slots := 0, locals := 127 }
set_option maxHeartbeats 4000000 in
set_option maxRecDepth 100000 in
theorem c_X3_slack (l : Launch) (D : va_G) (ad : Nat → Nat) (cz : Nat → ClassId) (x1 : Int32) (σ : fl_St) {r : Int32} {σ' : fl_St} (h : f_X3_slack x1 σ = some (r, σ')) : gMi l yX3_slack wsX3_slack rm_X3_slack D (wm ad cz) (wmT cz) [] [.ref (ad 0), .int x1] σ r σ' := by
  refine gMi_of (cc := cX3_slack) (maxL := 8) (by decide) rfl (Nat.le_of_ble_eq_true rfl) ?_
  intro p e s m args below meth c A Q ls hx hb hml hown hts hK hA hg hl hret
  have hown : s.vm.findClass RX3 = some m.cls := hown
  have hl : lv_has ls 8 [(0, .ref (ad 0)), (1, .int x1)] := hl
  have k_0 := hts (.fieldLink RX3 55 "FlowLedgerModel" "arcs" "I") (by decide +kernel)
  have k_1 := (by decide +kernel : ∀ w ∈ wsX30, w ∈ wsX3_slack)
  have k_2 := hts (.fieldLink RX3 100 "FlowLedgerModel" "total" "I") (by decide +kernel)
  have k_3 := hts (.fieldLink RX3 19 "FlowLedgerModel" "costs" "[I") (by decide +kernel)
  have k_4 := hts (.constant RX3 84 (-1000004)) (by decide +kernel)
  have k_5 := hts (.constant RX3 54 (-1000000)) (by decide +kernel)
  have L55 : ∀ (n : Nat) (x1 : Int32) (x3 : Int32) (x4 : Int32) (x5 : Int32) (x6 : Int32) (x7 : Int32) (σ : fl_St) (o6 : Int32) (σo : fl_St) (H : Heap) (locs : List Loc) (ls : Array Slot), f_X3_slack_l55 x1 x3 x4 x5 n x6 x7 σ = some (o6, σo) → gS D (wm ad cz) A s.heap σ H locs → lv_has ls 8 [(0, .ref (ad 0)), (1, .int x1), (3, .int x3), (4, .int x4), (5, .int x5), (6, .int x6), (7, .int x7)] → (∀ (H : Heap) (locs : List Loc) (ls : Array Slot), gS D (wm ad cz) A s.heap σo H locs → lv_has ls 8 [(0, .ref (ad 0)), (1, .int x1), (5, .int x5), (6, .int o6)] → W p l e rm_X3_slack s m args below meth c H locs 0 0 Q (F0 m 118 ls [])) → W p l e rm_X3_slack s m args below meth c H locs 0 0 Q (F0 m 55 ls []) := by
    intro n
    induction n with
    | zero =>
      intro x1 x3 x4 x5 x6 x7 σ o6 σo H locs ls h hg hl kk0
      rw [f_X3_slack_l55] at h
      cases h
    | succ n ih =>
      intro x1 x3 x4 x5 x6 x7 σ o6 σo H locs ls h hg hl kk0
      rw [f_X3_slack_l55] at h
      refine lv_iload hx hb dX3_slack_55 (lv_at hl 6 rfl) ?_
      refine lv_if_le (tgt := 118) hx hb dX3_slack_57 (by decide) (fun c14 => ?_) (fun c14 => ?_)
      · have h := fl_ifp c14 h
        obtain ⟨rfl, rfl⟩ := fl_s2 h
        exact kk0 H locs ls hg (lv_sub hl [0, 1, 4, 5] rfl)
      · have h := fl_ifn c14 h
        refine lv_iload hx hb dX3_slack_60 (lv_at hl 5 rfl) ?_
        refine lv_if_ne (tgt := 118) hx hb dX3_slack_62 (by decide) (fun c15 => ?_) (fun c15 => ?_)
        · have h := fl_ifn c15 h
          obtain ⟨rfl, rfl⟩ := fl_s2 h
          exact kk0 H locs ls hg (lv_sub hl [0, 1, 4, 5] rfl)
        · have h := fl_ifp c15 h
          refine lv_iload hx hb dX3_slack_65 (lv_at hl 3 rfl) ?_
          refine lv_ldc hx hb hown k_4 dX3_slack_67 ?_
          refine lv_icmp_eq (tgt := 118) hx hb dX3_slack_69 (by decide) (fun c16 => ?_) (fun c16 => ?_)
          · have h := fl_ifp c16 h
            obtain ⟨rfl, rfl⟩ := fl_s2 h
            exact kk0 H locs ls hg (lv_sub hl [0, 1, 4, 5] rfl)
          · have h := fl_ifn c16 h
            refine lv_aload_n hx hb dX3_slack_72 rfl (lv_at hl 0 rfl) ?_
            refine va_get (D := D) (ci := 3) (v := .ref (ad 4)) (C := RX3) (T := TX3) (N := 16) hx hb hts k_1 hown hK.1 hg.1 0 rfl rfl 4 (by decide) k_3 (fun _ h9 => h9) rfl dX3_slack_73 ?_
            refine lv_iload_n hx hb dX3_slack_76 rfl (lv_at hl 1 rfl) ?_
            refine lv_iload hx hb dX3_slack_77 (lv_at hl 4 rfl) ?_
            refine lv_iload hx hb dX3_slack_79 (lv_at hl 6 rfl) ?_
            refine lv_isub hx hb dX3_slack_81 ?_
            obtain ⟨σ17, i18, e19, h⟩ := fl_wr_b h
            refine g_st (n := 36) (t0 := 3) hx hb hK hg (wm_a3 ad cz _) (wm_s3 ad cz _) rfl i18 e19 dX3_slack_82 (fun H locs hg => ?_)
            refine lv_aload_n hx hb dX3_slack_83 rfl (lv_at hl 0 rfl) ?_
            obtain ⟨r21, σ22, e20, h⟩ := fl_b2_b h
            refine g_callVi (As := []) (rest := []) ⟨hx, hb, hml, hown, hts⟩ (c_X3_solve l D ad cz (σ17) e20) (cwV 0 hts gX3_slack_X3_solve rfl rfl rfl (by decide +kernel) ⟨Nat.le_of_ble_eq_true rfl, Nat.le_of_ble_eq_true rfl⟩) (va_recv hK.1 hg.1 (ci := 3) (q0 := 0) rfl rfl) hK hA hg rfl hl.1 rfl (Nat.le_of_ble_eq_true rfl) dX3_slack_84 ⟨Nat.le_of_ble_eq_true rfl, Nat.le_of_ble_eq_true rfl⟩ (fun H locs hg => ?_)
            obtain ⟨t24, hB26, h⟩ := fl_bnd h
            have J25 : ∀ (H : Heap) (locs : List Loc) (ls : Array Slot), gS D (wm ad cz) A s.heap σ22 H locs → lv_has ls 8 [(0, .ref (ad 0)), (1, .int x1), (3, .int x3), (4, .int x4), (5, .int x5), (7, .int x7)] → W p l e rm_X3_slack s m args below meth c H locs 0 0 Q (F0 m 110 ls [.int t24]) := by
              intro H locs ls hg hl
              refine lv_istore (lv' := [(6, .int t24), (0, .ref (ad 0)), (1, .int x1), (3, .int x3), (4, .int x4), (5, .int x5), (7, .int x7)]) hx hb dX3_slack_110 hl (by decide) rfl (fun ls hl => ?_)
              refine lv_iinc (v := (x7 + (-1))) (lv' := [(7, .int (x7 + (-1))), (6, .int t24), (0, .ref (ad 0)), (1, .int x1), (3, .int x3), (4, .int x4), (5, .int x5)]) hx hb dX3_slack_112 hl (k := 6) rfl rfl (by decide) rfl (fun ls hl => ?_)
              refine lv_goto (tgt := 55) hx hb dX3_slack_115 (by decide) ?_
              exact ih _ _ _ _ _ _ _ _ _ _ _ _ h hg (lv_sub hl [2, 3, 4, 5, 6, 1, 0] rfl) kk0
            clear h
            have h := hB26
            refine lv_if_ne (tgt := 109) hx hb dX3_slack_87 (by decide) (fun c23 => ?_) (fun c23 => ?_)
            · have h := fl_ifn c23 h
              refine lv_iconst (v := (0)) hx hb dX3_slack_109 (by decide) ?_
              obtain rfl := fl_s1 h
              exact J25 H locs ls hg (lv_sub hl [0, 1, 2, 3, 4, 6] rfl)
            · have h := fl_ifp c23 h
              refine lv_aload_n hx hb dX3_slack_90 rfl (lv_at hl 0 rfl) ?_
              refine va_get (D := D) (ci := 3) (v := .int (σ22 13 2)) (C := RX3) (T := TX3) (N := 16) hx hb hts k_1 hown hK.1 hg.1 0 rfl rfl 13 (by decide) k_2 (fun _ h9 => h9) rfl dX3_slack_91 ?_
              refine lv_iload_n hx hb dX3_slack_94 rfl (lv_at hl 2 rfl) ?_
              refine lv_iload hx hb dX3_slack_95 (lv_at hl 6 rfl) ?_
              refine lv_iload hx hb dX3_slack_97 (lv_at hl 3 rfl) ?_
              refine lv_imul hx hb dX3_slack_99 ?_
              refine lv_isub hx hb dX3_slack_100 ?_
              refine lv_icmp_ne (tgt := 109) hx hb dX3_slack_101 (by decide) (fun c27 => ?_) (fun c27 => ?_)
              · have h := fl_ifn c27 h
                refine lv_iconst (v := (0)) hx hb dX3_slack_109 (by decide) ?_
                obtain rfl := fl_s1 h
                exact J25 H locs ls hg (lv_sub hl [0, 1, 2, 3, 4, 6] rfl)
              · have h := fl_ifp c27 h
                refine lv_iload hx hb dX3_slack_104 (lv_at hl 6 rfl) ?_
                refine lv_goto (tgt := 110) hx hb dX3_slack_106 (by decide) ?_
                obtain rfl := fl_s1 h
                exact J25 H locs ls hg (lv_sub hl [0, 1, 2, 3, 4, 6] rfl)
  unfold f_X3_slack at h
  have W0 : ∀ (H : Heap) (locs : List Loc), gS D (wm ad cz) A s.heap σ H locs → W p l e rm_X3_slack s m args below meth c H locs 0 0 Q (F0 m 0 ls []) := by
    intro H locs hg
    refine lv_iload_n hx hb dX3_slack_0 rfl (lv_at hl 1 rfl) ?_
    refine lv_iconst (v := (0)) hx hb dX3_slack_1 (by decide) ?_
    refine lv_aload_n hx hb dX3_slack_2 rfl (lv_at hl 0 rfl) ?_
    refine va_get (D := D) (ci := 3) (v := .int (σ 13 0)) (C := RX3) (T := TX3) (N := 16) hx hb hts k_1 hown hK.1 hg.1 0 rfl rfl 0 (by decide) k_0 (fun _ h9 => h9) rfl dX3_slack_3 ?_
    refine lv_iconst (v := (1)) hx hb dX3_slack_6 (by decide) ?_
    refine lv_isub hx hb dX3_slack_7 ?_
    obtain ⟨r2, e1, h⟩ := fl_bnd h
    refine g_callSi (As := [.int x1, .int (0), .int ((σ 13 0) - (1))]) (rest := []) ⟨hx, hb, hml, hown, hts⟩ (c_X3_in l D ad cz (x1) ((0)) (((σ 13 0) - (1))) (σ) e1) (cwS 3 hts gX3_slack_X3_in rfl rfl rfl (by decide +kernel) ⟨Nat.le_of_ble_eq_true rfl, Nat.le_of_ble_eq_true rfl⟩) hK hA hg rfl hl.1 rfl (Nat.le_of_ble_eq_true rfl) dX3_slack_8 ⟨Nat.le_of_ble_eq_true rfl, Nat.le_of_ble_eq_true rfl⟩ (fun H locs hg => ?_)
    refine lv_if_ne (tgt := 17) hx hb dX3_slack_11 (by decide) (fun c3 => ?_) (fun c3 => ?_)
    · have h := fl_ifn c3 h
      refine lv_aload_n hx hb dX3_slack_17 rfl (lv_at hl 0 rfl) ?_
      obtain ⟨r5, σ6, e4, h⟩ := fl_b2_b h
      refine g_callVi (As := []) (rest := []) ⟨hx, hb, hml, hown, hts⟩ (c_X3_solve l D ad cz (σ) e4) (cwV 0 hts gX3_slack_X3_solve rfl rfl rfl (by decide +kernel) ⟨Nat.le_of_ble_eq_true rfl, Nat.le_of_ble_eq_true rfl⟩) (va_recv hK.1 hg.1 (ci := 3) (q0 := 0) rfl rfl) hK hA hg rfl hl.1 rfl (Nat.le_of_ble_eq_true rfl) dX3_slack_18 ⟨Nat.le_of_ble_eq_true rfl, Nat.le_of_ble_eq_true rfl⟩ (fun H locs hg => ?_)
      refine lv_istore_n (lv' := [(2, .int r5), (0, .ref (ad 0)), (1, .int x1)]) hx hb dX3_slack_21 rfl hl (by decide) rfl (fun ls hl => ?_)
      refine lv_iload_n hx hb dX3_slack_22 rfl (lv_at hl 0 rfl) ?_
      refine lv_if_ge (tgt := 28) hx hb dX3_slack_23 (by decide) (fun c7 => ?_) (fun c7 => ?_)
      · have h := fl_ifp c7 h
        refine lv_aload_n hx hb dX3_slack_28 rfl (lv_at hl 1 rfl) ?_
        refine va_get (D := D) (ci := 3) (v := .int (σ6 13 2)) (C := RX3) (T := TX3) (N := 16) hx hb hts k_1 hown hK.1 hg.1 0 rfl rfl 13 (by decide) k_2 (fun _ h9 => h9) rfl dX3_slack_29 ?_
        refine lv_istore_n (lv' := [(3, .int (σ6 13 2)), (2, .int r5), (0, .ref (ad 0)), (1, .int x1)]) hx hb dX3_slack_32 rfl hl (by decide) rfl (fun ls hl => ?_)
        refine lv_aload_n hx hb dX3_slack_33 rfl (lv_at hl 2 rfl) ?_
        refine lv_iload_n hx hb dX3_slack_34 rfl (lv_at hl 3 rfl) ?_
        obtain ⟨r9, σ10, e8, h⟩ := fl_b2_b h
        refine g_callVi (As := [.int x1]) (rest := []) ⟨hx, hb, hml, hown, hts⟩ (c_X3_mostOf l D ad cz (x1) (σ6) e8) (cwV 1 hts gX3_slack_X3_mostOf rfl rfl rfl (by decide +kernel) ⟨Nat.le_of_ble_eq_true rfl, Nat.le_of_ble_eq_true rfl⟩) (va_recv hK.1 hg.1 (ci := 3) (q0 := 0) rfl rfl) hK hA hg rfl hl.1 rfl (Nat.le_of_ble_eq_true rfl) dX3_slack_35 ⟨Nat.le_of_ble_eq_true rfl, Nat.le_of_ble_eq_true rfl⟩ (fun H locs hg => ?_)
        refine lv_istore (lv' := [(4, .int r9), (3, .int (σ6 13 2)), (2, .int r5), (0, .ref (ad 0)), (1, .int x1)]) hx hb dX3_slack_38 hl (by decide) rfl (fun ls hl => ?_)
        refine lv_aload_n hx hb dX3_slack_40 rfl (lv_at hl 3 rfl) ?_
        refine va_get (D := D) (ci := 3) (v := .ref (ad 4)) (C := RX3) (T := TX3) (N := 16) hx hb hts k_1 hown hK.1 hg.1 0 rfl rfl 4 (by decide) k_3 (fun _ h9 => h9) rfl dX3_slack_41 ?_
        refine lv_iload_n hx hb dX3_slack_44 rfl (lv_at hl 4 rfl) ?_
        obtain ⟨v11, i12, e13, h⟩ := fl_rd_b h
        refine g_ld (n := 36) (t0 := 3) hx hb hK hg (wm_a3 ad cz _) rfl i12 e13 dX3_slack_45 ?_
        refine lv_istore (lv' := [(5, .int v11), (4, .int r9), (3, .int (σ6 13 2)), (2, .int r5), (0, .ref (ad 0)), (1, .int x1)]) hx hb dX3_slack_46 hl (by decide) rfl (fun ls hl => ?_)
        refine lv_iconst (v := (0)) hx hb dX3_slack_48 (by decide) ?_
        refine lv_istore (lv' := [(6, .int (0)), (5, .int v11), (4, .int r9), (3, .int (σ6 13 2)), (2, .int r5), (0, .ref (ad 0)), (1, .int x1)]) hx hb dX3_slack_49 hl (by decide) rfl (fun ls hl => ?_)
        refine lv_bipush (v := (40)) hx hb dX3_slack_51 (by decide) ?_
        refine lv_istore (lv' := [(7, .int (40)), (6, .int (0)), (5, .int v11), (4, .int r9), (3, .int (σ6 13 2)), (2, .int r5), (0, .ref (ad 0)), (1, .int x1)]) hx hb dX3_slack_53 hl (by decide) rfl (fun ls hl => ?_)
        obtain ⟨w28, σ29, hB30, h⟩ := fl_b2_b h
        refine L55 fl_N _ _ _ _ _ _ _ _ _ H locs ls hB30 hg (lv_sub hl [6, 7, 4, 3, 2, 1, 0] rfl) (fun H locs ls hg hl => ?_)
        refine lv_aload_n hx hb dX3_slack_118 rfl (lv_at hl 0 rfl) ?_
        refine va_get (D := D) (ci := 3) (v := .ref (ad 4)) (C := RX3) (T := TX3) (N := 16) hx hb hts k_1 hown hK.1 hg.1 0 rfl rfl 4 (by decide) k_3 (fun _ h9 => h9) rfl dX3_slack_119 ?_
        refine lv_iload_n hx hb dX3_slack_122 rfl (lv_at hl 1 rfl) ?_
        refine lv_iload hx hb dX3_slack_123 (lv_at hl 2 rfl) ?_
        obtain ⟨σ31, i32, e33, h⟩ := fl_wr_b h
        refine g_st (n := 36) (t0 := 3) hx hb hK hg (wm_a3 ad cz _) (wm_s3 ad cz _) rfl i32 e33 dX3_slack_125 (fun H locs hg => ?_)
        refine lv_iload hx hb dX3_slack_126 (lv_at hl 3 rfl) ?_
        exact hret _ _ _ _ _ _ h hg rfl dX3_slack_128
      · have h := fl_ifn c7 h
        refine lv_iload_n hx hb dX3_slack_26 rfl (lv_at hl 0 rfl) ?_
        exact hret _ _ _ _ _ _ h hg rfl dX3_slack_27
    · have h := fl_ifp c3 h
      refine lv_ldc hx hb hown k_5 dX3_slack_14 ?_
      exact hret _ _ _ _ _ _ h hg rfl dX3_slack_16
  exact W0 _ _ hg
