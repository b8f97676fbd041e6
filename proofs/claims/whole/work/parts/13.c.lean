def f_X1_sendOnce_l34 (x1 : Int32) (σ : fl_St) : Nat → Int32 → Int32 → Int32 → Option (Int32 × Int32)
  | 0, _, _, _ => none
  | n + 1, x2, x3, x4 => if (8) ≤ x4 then (some (x2, x3)) else ((fl_rd σ 11 8 x3).bind fun v12 => if v12 = (-1) then (some (x2, x3)) else ((fl_rd σ 11 8 x3).bind fun v16 => (fl_rd σ 8 40 v16).bind fun v19 => (fl_rd σ 11 8 x3).bind fun v22 => (fl_rd σ 5 40 v22).bind fun v25 => f_X1_sendOnce_l34 x1 σ n (if v19 < x2 then v19 else x2) v25 (x4 + 1)))
def f_X1_sendOnce (σ : fl_St) : Option (Int32 × fl_St) := (f_X1_startAtExcess  σ).bind fun σ2 => (f_X1_measure (-1) σ2).bind fun σ4 => (f_X1_nearestShortNode  σ4).bind fun r6 => if r6 = (-1) then (some ((0), σ4)) else ((fl_rd σ4 9 8 r6).bind fun v8 => fl_b2 (f_X1_sendOnce_l34 r6 σ4 fl_N (-v8) r6 (0)) fun (w28 : Int32) (w29 : Int32) => (fl_rd σ4 9 8 w29).bind fun v31 => (fl_rd σ4 9 8 w29).bind fun v34 => (fl_wr σ4 9 8 w29 (v34 - (if v31 < w28 then v31 else w28))).bind fun σ37 => (fl_rd σ37 9 8 r6).bind fun v40 => (fl_wr σ37 9 8 r6 (v40 + (if v31 < w28 then v31 else w28))).bind fun σ43 => (f_X1_sendAlongPath r6 (if v31 < w28 then v31 else w28) σ43).bind fun σ47 => some ((1), σ47))
def rm_X1_sendOnce : Room := { frames := 2, cells := 0, slots := 0, locals := 46 }
set_option maxHeartbeats 4000000 in
set_option maxRecDepth 100000 in
theorem c_X1_sendOnce (l : Launch) (D : va_G) (ad : Nat → Nat) (cz : Nat → ClassId) (σ : fl_St) {r : Int32} {σ' : fl_St} (h : f_X1_sendOnce σ = some (r, σ')) : gMi l yX1_sendOnce wsX1_sendOnce rm_X1_sendOnce D (wc ad cz) (wcT cz) wcN [.ref (ad 2)] σ r σ' := by
  refine gMi_of (cc := cX1_sendOnce) (maxL := 5) (by decide) rfl (Nat.le_of_ble_eq_true rfl) ?_
  intro p e s m args below meth c A Q ls hx hb hml hown hts hK hA hg hl hret
  have hown : s.vm.findClass RX1 = some m.cls := hown
  have hl : lv_has ls 5 [(0, .ref (ad 2))] := hl
  have k_0 := hts (.fieldLink RX1 31 "FlowLedger$Router" "excess" "[I") (by decide +kernel)
  have k_1 := (by decide +kernel : ∀ w ∈ wsX10, w ∈ wsX1_sendOnce)
  have k_2 := hts (.fieldLink RX1 37 "FlowLedger$Router" "entry" "[I") (by decide +kernel)
  have k_3 := hts (.fieldLink RX1 28 "FlowLedger$Router" "room" "[I") (by decide +kernel)
  have k_4 := hts (.methodLink RX1 96 Lib.Math.min.name) (by decide +kernel)
  have k_5 := hts (.static Lib.Math.min.name) (by decide +kernel)
  have k_6 := hts (.initialized "java/lang/Math") (by decide +kernel)
  have k_7 := hts (.code Lib.Math.min.name Lib.Math.min.code 2 (some .int)) (by decide +kernel)
  have k_8 := hts (.fieldLink RX1 18 "FlowLedger$Router" "tail" "[I") (by decide +kernel)
  have L34 : ∀ (n : Nat) (x1 : Int32) (σ : fl_St) (x2 : Int32) (x3 : Int32) (x4 : Int32) (o2 : Int32) (o3 : Int32) (H : Heap) (locs : List Loc) (ls : Array Slot), f_X1_sendOnce_l34 x1 σ n x2 x3 x4 = some (o2, o3) → gS D (wc ad cz) A s.heap σ H locs → lv_has ls 5 [(0, .ref (ad 2)), (1, .int x1), (2, .int x2), (3, .int x3), (4, .int x4)] → (∀ (H : Heap) (locs : List Loc) (ls : Array Slot), gS D (wc ad cz) A s.heap σ H locs → lv_has ls 5 [(0, .ref (ad 2)), (1, .int x1), (2, .int o2), (3, .int o3)] → W p l e rm_X1_sendOnce s m args below meth c H locs 0 0 Q (F0 m 85 ls [])) → W p l e rm_X1_sendOnce s m args below meth c H locs 0 0 Q (F0 m 34 ls []) := by
    intro n
    induction n with
    | zero =>
      intro x1 σ x2 x3 x4 o2 o3 H locs ls h hg hl kk0
      rw [f_X1_sendOnce_l34] at h
      cases h
    | succ n ih =>
      intro x1 σ x2 x3 x4 o2 o3 H locs ls h hg hl kk0
      rw [f_X1_sendOnce_l34] at h
      refine lv_iload hx hb dX1_sendOnce_34 (lv_at hl 4 rfl) ?_
      refine lv_bipush (v := (8)) hx hb dX1_sendOnce_36 (by decide) ?_
      refine lv_icmp_ge (tgt := 85) hx hb dX1_sendOnce_38 (by decide) (fun c11 => ?_) (fun c11 => ?_)
      · have h := fl_ifp c11 h
        obtain ⟨rfl, rfl⟩ := fl_s2 h
        exact kk0 H locs ls hg (lv_sub hl [0, 1, 2, 3] rfl)
      · have h := fl_ifn c11 h
        refine lv_aload_n hx hb dX1_sendOnce_41 rfl (lv_at hl 0 rfl) ?_
        refine va_get (D := D) (ci := 1) (v := .ref (ad 14)) (C := RX1) (T := TX1) (N := 8) hx hb hts k_1 hown hK.1 hg.1 2 rfl rfl 7 (by decide) k_2 (fun _ h9 => h9) rfl dX1_sendOnce_42 ?_
        refine lv_iload_n hx hb dX1_sendOnce_45 rfl (lv_at hl 3 rfl) ?_
        obtain ⟨v12, i13, e14, h⟩ := fl_rd_b h
        refine g_ld (n := 8) (t0 := 11) hx hb hK hg (wc_a11 ad cz _) rfl i13 e14 dX1_sendOnce_46 ?_
        refine lv_iconst (v := (-1)) hx hb dX1_sendOnce_47 (by decide) ?_
        refine lv_icmp_eq (tgt := 85) hx hb dX1_sendOnce_48 (by decide) (fun c15 => ?_) (fun c15 => ?_)
        · have h := fl_ifp c15 h
          obtain ⟨rfl, rfl⟩ := fl_s2 h
          exact kk0 H locs ls hg (lv_sub hl [0, 1, 2, 3] rfl)
        · have h := fl_ifn c15 h
          refine lv_iload_n hx hb dX1_sendOnce_51 rfl (lv_at hl 2 rfl) ?_
          refine lv_aload_n hx hb dX1_sendOnce_52 rfl (lv_at hl 0 rfl) ?_
          refine va_get (D := D) (ci := 1) (v := .ref (ad 11)) (C := RX1) (T := TX1) (N := 8) hx hb hts k_1 hown hK.1 hg.1 2 rfl rfl 4 (by decide) k_3 (fun _ h9 => h9) rfl dX1_sendOnce_53 ?_
          refine lv_aload_n hx hb dX1_sendOnce_56 rfl (lv_at hl 0 rfl) ?_
          refine va_get (D := D) (ci := 1) (v := .ref (ad 14)) (C := RX1) (T := TX1) (N := 8) hx hb hts k_1 hown hK.1 hg.1 2 rfl rfl 7 (by decide) k_2 (fun _ h9 => h9) rfl dX1_sendOnce_57 ?_
          refine lv_iload_n hx hb dX1_sendOnce_60 rfl (lv_at hl 3 rfl) ?_
          obtain ⟨v16, i17, e18, h⟩ := fl_rd_b h
          refine g_ld (n := 8) (t0 := 11) hx hb hK hg (wc_a11 ad cz _) rfl i17 e18 dX1_sendOnce_61 ?_
          obtain ⟨v19, i20, e21, h⟩ := fl_rd_b h
          refine g_ld (n := 40) (t0 := 8) hx hb hK hg (wc_a8 ad cz _) rfl i20 e21 dX1_sendOnce_62 ?_
          refine va_mmin (rest := []) hx hb (hml.trans hl.1.symm) hown k_4 k_5 k_6 k_7 (Nat.le_of_ble_eq_true rfl) (Nat.le_of_ble_eq_true rfl) (Nat.le_of_ble_eq_true rfl) (Nat.le_of_ble_eq_true rfl) dX1_sendOnce_63 ?_
          refine lv_istore_n (lv' := [(2, .int (if v19 < x2 then v19 else x2)), (0, .ref (ad 2)), (1, .int x1), (3, .int x3), (4, .int x4)]) hx hb dX1_sendOnce_66 rfl hl (by decide) rfl (fun ls hl => ?_)
          refine lv_aload_n hx hb dX1_sendOnce_67 rfl (lv_at hl 1 rfl) ?_
          refine va_get (D := D) (ci := 1) (v := .ref (ad 8)) (C := RX1) (T := TX1) (N := 8) hx hb hts k_1 hown hK.1 hg.1 2 rfl rfl 1 (by decide) k_8 (fun _ h9 => h9) rfl dX1_sendOnce_68 ?_
          refine lv_aload_n hx hb dX1_sendOnce_71 rfl (lv_at hl 1 rfl) ?_
          refine va_get (D := D) (ci := 1) (v := .ref (ad 14)) (C := RX1) (T := TX1) (N := 8) hx hb hts k_1 hown hK.1 hg.1 2 rfl rfl 7 (by decide) k_2 (fun _ h9 => h9) rfl dX1_sendOnce_72 ?_
          refine lv_iload_n hx hb dX1_sendOnce_75 rfl (lv_at hl 3 rfl) ?_
          obtain ⟨v22, i23, e24, h⟩ := fl_rd_b h
          refine g_ld (n := 8) (t0 := 11) hx hb hK hg (wc_a11 ad cz _) rfl i23 e24 dX1_sendOnce_76 ?_
          obtain ⟨v25, i26, e27, h⟩ := fl_rd_b h
          refine g_ld (n := 40) (t0 := 5) hx hb hK hg (wc_a5 ad cz _) rfl i26 e27 dX1_sendOnce_77 ?_
          refine lv_istore_n (lv' := [(3, .int v25), (2, .int (if v19 < x2 then v19 else x2)), (0, .ref (ad 2)), (1, .int x1), (4, .int x4)]) hx hb dX1_sendOnce_78 rfl hl (by decide) rfl (fun ls hl => ?_)
          refine lv_iinc (v := (x4 + 1)) (lv' := [(4, .int (x4 + 1)), (3, .int v25), (2, .int (if v19 < x2 then v19 else x2)), (0, .ref (ad 2)), (1, .int x1)]) hx hb dX1_sendOnce_79 hl (k := 4) rfl rfl (by decide) rfl (fun ls hl => ?_)
          refine lv_goto (tgt := 34) hx hb dX1_sendOnce_82 (by decide) ?_
          exact ih _ _ _ _ _ _ _ _ _ _ h hg (lv_sub hl [3, 4, 2, 1, 0] rfl) kk0
  unfold f_X1_sendOnce at h
  have W0 : ∀ (H : Heap) (locs : List Loc), gS D (wc ad cz) A s.heap σ H locs → W p l e rm_X1_sendOnce s m args below meth c H locs 0 0 Q (F0 m 0 ls []) := by
    intro H locs hg
    refine lv_aload_n hx hb dX1_sendOnce_0 rfl (lv_at hl 0 rfl) ?_
    obtain ⟨σ2, e1, h⟩ := fl_bnd h
    refine g_callVv (As := []) (rest := []) ⟨hx, hb, hml, hown, hts⟩ (c_X1_startAtExcess l D ad cz (σ) e1) (cwV 0 hts gX1_sendOnce_X1_startAtExcess rfl rfl rfl (by decide +kernel) ⟨Nat.le_of_ble_eq_true rfl, Nat.le_of_ble_eq_true rfl⟩) (va_recv hK.1 hg.1 (ci := 1) (q0 := 2) rfl rfl) hK hA hg rfl hl.1 rfl (Nat.le_of_ble_eq_true rfl) dX1_sendOnce_1 ⟨Nat.le_of_ble_eq_true rfl, Nat.le_of_ble_eq_true rfl⟩ (fun H locs hg => ?_)
    refine lv_aload_n hx hb dX1_sendOnce_4 rfl (lv_at hl 0 rfl) ?_
    refine lv_iconst (v := (-1)) hx hb dX1_sendOnce_5 (by decide) ?_
    obtain ⟨σ4, e3, h⟩ := fl_bnd h
    refine g_callVv (As := [.int (-1)]) (rest := []) ⟨hx, hb, hml, hown, hts⟩ (c_X1_measure l D ad cz ((-1)) (σ2) e3) (cwV 1 hts gX1_sendOnce_X1_measure rfl rfl rfl (by decide +kernel) ⟨Nat.le_of_ble_eq_true rfl, Nat.le_of_ble_eq_true rfl⟩) (va_recv hK.1 hg.1 (ci := 1) (q0 := 2) rfl rfl) hK hA hg rfl hl.1 rfl (Nat.le_of_ble_eq_true rfl) dX1_sendOnce_6 ⟨Nat.le_of_ble_eq_true rfl, Nat.le_of_ble_eq_true rfl⟩ (fun H locs hg => ?_)
    refine lv_aload_n hx hb dX1_sendOnce_9 rfl (lv_at hl 0 rfl) ?_
    obtain ⟨r6, e5, h⟩ := fl_bnd h
    refine g_callVi (As := []) (rest := []) ⟨hx, hb, hml, hown, hts⟩ (c_X1_nearestShortNode l D ad cz (σ4) e5) (cwV 0 hts gX1_sendOnce_X1_nearestShortNode rfl rfl rfl (by decide +kernel) ⟨Nat.le_of_ble_eq_true rfl, Nat.le_of_ble_eq_true rfl⟩) (va_recv hK.1 hg.1 (ci := 1) (q0 := 2) rfl rfl) hK hA hg rfl hl.1 rfl (Nat.le_of_ble_eq_true rfl) dX1_sendOnce_10 ⟨Nat.le_of_ble_eq_true rfl, Nat.le_of_ble_eq_true rfl⟩ (fun H locs hg => ?_)
    refine lv_istore_n (lv' := [(1, .int r6), (0, .ref (ad 2))]) hx hb dX1_sendOnce_13 rfl hl (by decide) rfl (fun ls hl => ?_)
    refine lv_iload_n hx hb dX1_sendOnce_14 rfl (lv_at hl 0 rfl) ?_
    refine lv_iconst (v := (-1)) hx hb dX1_sendOnce_15 (by decide) ?_
    refine lv_icmp_ne (tgt := 21) hx hb dX1_sendOnce_16 (by decide) (fun c7 => ?_) (fun c7 => ?_)
    · have h := fl_ifn c7 h
      refine lv_aload_n hx hb dX1_sendOnce_21 rfl (lv_at hl 1 rfl) ?_
      refine va_get (D := D) (ci := 1) (v := .ref (ad 12)) (C := RX1) (T := TX1) (N := 8) hx hb hts k_1 hown hK.1 hg.1 2 rfl rfl 5 (by decide) k_0 (fun _ h9 => h9) rfl dX1_sendOnce_22 ?_
      refine lv_iload_n hx hb dX1_sendOnce_25 rfl (lv_at hl 0 rfl) ?_
      obtain ⟨v8, i9, e10, h⟩ := fl_rd_b h
      refine g_ld (n := 8) (t0 := 9) hx hb hK hg (wc_a9 ad cz _) rfl i9 e10 dX1_sendOnce_26 ?_
      refine lv_ineg hx hb dX1_sendOnce_27 ?_
      refine lv_istore_n (lv' := [(2, .int (-v8)), (1, .int r6), (0, .ref (ad 2))]) hx hb dX1_sendOnce_28 rfl hl (by decide) rfl (fun ls hl => ?_)
      refine lv_iload_n hx hb dX1_sendOnce_29 rfl (lv_at hl 1 rfl) ?_
      refine lv_istore_n (lv' := [(3, .int r6), (2, .int (-v8)), (1, .int r6), (0, .ref (ad 2))]) hx hb dX1_sendOnce_30 rfl hl (by decide) rfl (fun ls hl => ?_)
      refine lv_iconst (v := (0)) hx hb dX1_sendOnce_31 (by decide) ?_
      refine lv_istore (lv' := [(4, .int (0)), (3, .int r6), (2, .int (-v8)), (1, .int r6), (0, .ref (ad 2))]) hx hb dX1_sendOnce_32 hl (by decide) rfl (fun ls hl => ?_)
      obtain ⟨w28, w29, hB30, h⟩ := fl_b2_b h
      refine L34 fl_N _ _ _ _ _ _ _ H locs ls hB30 hg (lv_sub hl [4, 3, 2, 1, 0] rfl) (fun H locs ls hg hl => ?_)
      refine lv_iload_n hx hb dX1_sendOnce_85 rfl (lv_at hl 2 rfl) ?_
      refine lv_aload_n hx hb dX1_sendOnce_86 rfl (lv_at hl 0 rfl) ?_
      refine va_get (D := D) (ci := 1) (v := .ref (ad 12)) (C := RX1) (T := TX1) (N := 8) hx hb hts k_1 hown hK.1 hg.1 2 rfl rfl 5 (by decide) k_0 (fun _ h9 => h9) rfl dX1_sendOnce_87 ?_
      refine lv_iload_n hx hb dX1_sendOnce_90 rfl (lv_at hl 3 rfl) ?_
      obtain ⟨v31, i32, e33, h⟩ := fl_rd_b h
      refine g_ld (n := 8) (t0 := 9) hx hb hK hg (wc_a9 ad cz _) rfl i32 e33 dX1_sendOnce_91 ?_
      refine va_mmin (rest := []) hx hb (hml.trans hl.1.symm) hown k_4 k_5 k_6 k_7 (Nat.le_of_ble_eq_true rfl) (Nat.le_of_ble_eq_true rfl) (Nat.le_of_ble_eq_true rfl) (Nat.le_of_ble_eq_true rfl) dX1_sendOnce_92 ?_
      refine lv_istore_n (lv' := [(2, .int (if v31 < w28 then v31 else w28)), (0, .ref (ad 2)), (1, .int r6), (3, .int w29)]) hx hb dX1_sendOnce_95 rfl hl (by decide) rfl (fun ls hl => ?_)
      refine lv_aload_n hx hb dX1_sendOnce_96 rfl (lv_at hl 1 rfl) ?_
      refine va_get (D := D) (ci := 1) (v := .ref (ad 12)) (C := RX1) (T := TX1) (N := 8) hx hb hts k_1 hown hK.1 hg.1 2 rfl rfl 5 (by decide) k_0 (fun _ h9 => h9) rfl dX1_sendOnce_97 ?_
      refine lv_iload_n hx hb dX1_sendOnce_100 rfl (lv_at hl 3 rfl) ?_
      refine lv_dup2_11 hx hb dX1_sendOnce_101 rfl rfl ?_
      obtain ⟨v34, i35, e36, h⟩ := fl_rd_b h
      refine g_ld (n := 8) (t0 := 9) hx hb hK hg (wc_a9 ad cz _) rfl i35 e36 dX1_sendOnce_102 ?_
      refine lv_iload_n hx hb dX1_sendOnce_103 rfl (lv_at hl 0 rfl) ?_
      refine lv_isub hx hb dX1_sendOnce_104 ?_
      obtain ⟨σ37, i38, e39, h⟩ := fl_wr_b h
      refine g_st (n := 8) (t0 := 9) hx hb hK hg (wc_a9 ad cz _) (wc_s9 ad cz _) rfl i38 e39 dX1_sendOnce_105 (fun H locs hg => ?_)
      refine lv_aload_n hx hb dX1_sendOnce_106 rfl (lv_at hl 1 rfl) ?_
      refine va_get (D := D) (ci := 1) (v := .ref (ad 12)) (C := RX1) (T := TX1) (N := 8) hx hb hts k_1 hown hK.1 hg.1 2 rfl rfl 5 (by decide) k_0 (fun _ h9 => h9) rfl dX1_sendOnce_107 ?_
      refine lv_iload_n hx hb dX1_sendOnce_110 rfl (lv_at hl 2 rfl) ?_
      refine lv_dup2_11 hx hb dX1_sendOnce_111 rfl rfl ?_
      obtain ⟨v40, i41, e42, h⟩ := fl_rd_b h
      refine g_ld (n := 8) (t0 := 9) hx hb hK hg (wc_a9 ad cz _) rfl i41 e42 dX1_sendOnce_112 ?_
      refine lv_iload_n hx hb dX1_sendOnce_113 rfl (lv_at hl 0 rfl) ?_
      refine lv_iadd hx hb dX1_sendOnce_114 ?_
      obtain ⟨σ43, i44, e45, h⟩ := fl_wr_b h
      refine g_st (n := 8) (t0 := 9) hx hb hK hg (wc_a9 ad cz _) (wc_s9 ad cz _) rfl i44 e45 dX1_sendOnce_115 (fun H locs hg => ?_)
      refine lv_aload_n hx hb dX1_sendOnce_116 rfl (lv_at hl 1 rfl) ?_
      refine lv_iload_n hx hb dX1_sendOnce_117 rfl (lv_at hl 2 rfl) ?_
      refine lv_iload_n hx hb dX1_sendOnce_118 rfl (lv_at hl 0 rfl) ?_
      obtain ⟨σ47, e46, h⟩ := fl_bnd h
      refine g_callVv (As := [.int r6, .int (if v31 < w28 then v31 else w28)]) (rest := []) ⟨hx, hb, hml, hown, hts⟩ (c_X1_sendAlongPath l D ad cz (r6) ((if v31 < w28 then v31 else w28)) (σ43) e46) (cwV 2 hts gX1_sendOnce_X1_sendAlongPath rfl rfl rfl (by decide +kernel) ⟨Nat.le_of_ble_eq_true rfl, Nat.le_of_ble_eq_true rfl⟩) (va_recv hK.1 hg.1 (ci := 1) (q0 := 2) rfl rfl) hK hA hg rfl hl.1 rfl (Nat.le_of_ble_eq_true rfl) dX1_sendOnce_119 ⟨Nat.le_of_ble_eq_true rfl, Nat.le_of_ble_eq_true rfl⟩ (fun H locs hg => ?_)
      refine lv_iconst (v := (1)) hx hb dX1_sendOnce_122 (by decide) ?_
      exact hret _ _ _ _ _ _ h hg rfl dX1_sendOnce_123
    · have h := fl_ifp c7 h
      refine lv_iconst (v := (0)) hx hb dX1_sendOnce_19 (by decide) ?_
      exact hret _ _ _ _ _ _ h hg rfl dX1_sendOnce_20
  exact W0 _ _ hg
def f_X1_route_l21 : Nat → Int32 → Int32 → fl_St → Option (fl_St)
  | 0, _, _, _ => none
  | n + 1, x1, x2, σ => if x1 = 0 then (some (σ)) else (if (840) ≤ x2 then (some (σ)) else (fl_b2 (f_X1_sendOnce  σ) fun r12 σ13 => f_X1_route_l21 n r12 (x2 + 1) σ13))
def f_X1_route (σ : fl_St) : Option (Int32 × fl_St) := fl_b2 (f_X1_levelUnboundedArcs  σ) fun r2 σ3 => if r2 = 0 then (some ((0), σ3)) else ((f_X1_fillLightArcs  σ3).bind fun σ6 => (f_X1_countExcess  σ6).bind fun σ8 => (f_X1_route_l21 fl_N (1) (0) σ8).bind fun (σ14 : fl_St) => some ((1), σ14))
def rm_X1_route : Room := { frames := 3, cells := 0, slots := 0, locals := 70 }
set_option maxHeartbeats 4000000 in
set_option maxRecDepth 100000 in
theorem c_X1_route (l : Launch) (D : va_G) (ad : Nat → Nat) (cz : Nat → ClassId) (σ : fl_St) {r : Int32} {σ' : fl_St} (h : f_X1_route σ = some (r, σ')) : gMi l yX1_route wsX1_route rm_X1_route D (wc ad cz) (wcT cz) wcN [.ref (ad 2)] σ r σ' := by
  refine gMi_of (cc := cX1_route) (maxL := 3) (by decide) rfl (Nat.le_of_ble_eq_true rfl) ?_
  intro p e s m args below meth c A Q ls hx hb hml hown hts hK hA hg hl hret
  have hown : s.vm.findClass RX1 = some m.cls := hown
  have hl : lv_has ls 3 [(0, .ref (ad 2))] := hl
  have L21 : ∀ (n : Nat) (x1 : Int32) (x2 : Int32) (σ : fl_St) (σo : fl_St) (H : Heap) (locs : List Loc) (ls : Array Slot), f_X1_route_l21 n x1 x2 σ = some (σo) → gS D (wc ad cz) A s.heap σ H locs → lv_has ls 3 [(0, .ref (ad 2)), (1, .int x1), (2, .int x2)] → (∀ (H : Heap) (locs : List Loc) (ls : Array Slot), gS D (wc ad cz) A s.heap σo H locs → lv_has ls 3 [] → W p l e rm_X1_route s m args below meth c H locs 0 0 Q (F0 m 43 ls [])) → W p l e rm_X1_route s m args below meth c H locs 0 0 Q (F0 m 21 ls []) := by
    intro n
    induction n with
    | zero =>
      intro x1 x2 σ σo H locs ls h hg hl kk0
      rw [f_X1_route_l21] at h
      cases h
    | succ n ih =>
      intro x1 x2 σ σo H locs ls h hg hl kk0
      rw [f_X1_route_l21] at h
      refine lv_iload_n hx hb dX1_route_21 rfl (lv_at hl 1 rfl) ?_
      refine lv_if_eq (tgt := 43) hx hb dX1_route_22 (by decide) (fun c9 => ?_) (fun c9 => ?_)
      · have h := fl_ifp c9 h
        obtain rfl := fl_s1 h
        exact kk0 H locs ls hg (lv_sub hl [] rfl)
      · have h := fl_ifn c9 h
        refine lv_iload_n hx hb dX1_route_25 rfl (lv_at hl 2 rfl) ?_
        refine lv_sipush (v := (840)) hx hb dX1_route_26 (by decide) ?_
        refine lv_icmp_ge (tgt := 43) hx hb dX1_route_29 (by decide) (fun c10 => ?_) (fun c10 => ?_)
        · have h := fl_ifp c10 h
          obtain rfl := fl_s1 h
          exact kk0 H locs ls hg (lv_sub hl [] rfl)
        · have h := fl_ifn c10 h
          refine lv_aload_n hx hb dX1_route_32 rfl (lv_at hl 0 rfl) ?_
          obtain ⟨r12, σ13, e11, h⟩ := fl_b2_b h
          refine g_callVi (As := []) (rest := []) ⟨hx, hb, hml, hown, hts⟩ (c_X1_sendOnce l D ad cz (σ) e11) (cwV 0 hts gX1_route_X1_sendOnce rfl rfl rfl (by decide +kernel) ⟨Nat.le_of_ble_eq_true rfl, Nat.le_of_ble_eq_true rfl⟩) (va_recv hK.1 hg.1 (ci := 1) (q0 := 2) rfl rfl) hK hA hg rfl hl.1 rfl (Nat.le_of_ble_eq_true rfl) dX1_route_33 ⟨Nat.le_of_ble_eq_true rfl, Nat.le_of_ble_eq_true rfl⟩ (fun H locs hg => ?_)
          refine lv_istore_n (lv' := [(1, .int r12), (0, .ref (ad 2)), (2, .int x2)]) hx hb dX1_route_36 rfl hl (by decide) rfl (fun ls hl => ?_)
          refine lv_iinc (v := (x2 + 1)) (lv' := [(2, .int (x2 + 1)), (1, .int r12), (0, .ref (ad 2))]) hx hb dX1_route_37 hl (k := 2) rfl rfl (by decide) rfl (fun ls hl => ?_)
          refine lv_goto (tgt := 21) hx hb dX1_route_40 (by decide) ?_
          exact ih _ _ _ _ _ _ _ h hg (lv_sub hl [2, 1, 0] rfl) kk0
  unfold f_X1_route at h
  have W0 : ∀ (H : Heap) (locs : List Loc), gS D (wc ad cz) A s.heap σ H locs → W p l e rm_X1_route s m args below meth c H locs 0 0 Q (F0 m 0 ls []) := by
    intro H locs hg
    refine lv_aload_n hx hb dX1_route_0 rfl (lv_at hl 0 rfl) ?_
    obtain ⟨r2, σ3, e1, h⟩ := fl_b2_b h
    refine g_callVi (As := []) (rest := []) ⟨hx, hb, hml, hown, hts⟩ (c_X1_levelUnboundedArcs l D ad cz (σ) e1) (cwV 0 hts gX1_route_X1_levelUnboundedArcs rfl rfl rfl (by decide +kernel) ⟨Nat.le_of_ble_eq_true rfl, Nat.le_of_ble_eq_true rfl⟩) (va_recv hK.1 hg.1 (ci := 1) (q0 := 2) rfl rfl) hK hA hg rfl hl.1 rfl (Nat.le_of_ble_eq_true rfl) dX1_route_1 ⟨Nat.le_of_ble_eq_true rfl, Nat.le_of_ble_eq_true rfl⟩ (fun H locs hg => ?_)
    refine lv_if_ne (tgt := 9) hx hb dX1_route_4 (by decide) (fun c4 => ?_) (fun c4 => ?_)
    · have h := fl_ifn c4 h
      refine lv_aload_n hx hb dX1_route_9 rfl (lv_at hl 0 rfl) ?_
      obtain ⟨σ6, e5, h⟩ := fl_bnd h
      refine g_callVv (As := []) (rest := []) ⟨hx, hb, hml, hown, hts⟩ (c_X1_fillLightArcs l D ad cz (σ3) e5) (cwV 0 hts gX1_route_X1_fillLightArcs rfl rfl rfl (by decide +kernel) ⟨Nat.le_of_ble_eq_true rfl, Nat.le_of_ble_eq_true rfl⟩) (va_recv hK.1 hg.1 (ci := 1) (q0 := 2) rfl rfl) hK hA hg rfl hl.1 rfl (Nat.le_of_ble_eq_true rfl) dX1_route_10 ⟨Nat.le_of_ble_eq_true rfl, Nat.le_of_ble_eq_true rfl⟩ (fun H locs hg => ?_)
      refine lv_aload_n hx hb dX1_route_13 rfl (lv_at hl 0 rfl) ?_
      obtain ⟨σ8, e7, h⟩ := fl_bnd h
      refine g_callVv (As := []) (rest := []) ⟨hx, hb, hml, hown, hts⟩ (c_X1_countExcess l D ad cz (σ6) e7) (cwV 0 hts gX1_route_X1_countExcess rfl rfl rfl (by decide +kernel) ⟨Nat.le_of_ble_eq_true rfl, Nat.le_of_ble_eq_true rfl⟩) (va_recv hK.1 hg.1 (ci := 1) (q0 := 2) rfl rfl) hK hA hg rfl hl.1 rfl (Nat.le_of_ble_eq_true rfl) dX1_route_14 ⟨Nat.le_of_ble_eq_true rfl, Nat.le_of_ble_eq_true rfl⟩ (fun H locs hg => ?_)
      refine lv_iconst (v := (1)) hx hb dX1_route_17 (by decide) ?_
      refine lv_istore_n (lv' := [(1, .int (1)), (0, .ref (ad 2))]) hx hb dX1_route_18 rfl hl (by decide) rfl (fun ls hl => ?_)
      refine lv_iconst (v := (0)) hx hb dX1_route_19 (by decide) ?_
      refine lv_istore_n (lv' := [(2, .int (0)), (1, .int (1)), (0, .ref (ad 2))]) hx hb dX1_route_20 rfl hl (by decide) rfl (fun ls hl => ?_)
      obtain ⟨σ14, hB15, h⟩ := fl_bnd h
      refine L21 fl_N _ _ _ _ H locs ls hB15 hg (lv_sub hl [2, 1, 0] rfl) (fun H locs ls hg hl => ?_)
      refine lv_iconst (v := (1)) hx hb dX1_route_43 (by decide) ?_
      exact hret _ _ _ _ _ _ h hg rfl dX1_route_44
    · have h := fl_ifp c4 h
      refine lv_iconst (v := (0)) hx hb dX1_route_7 (by decide) ?_
      exact hret _ _ _ _ _ _ h hg rfl dX1_route_8
  exact W0 _ _ hg
def f_X1_nodesBehindExcess_l13 (σ : fl_St) : Nat → Int32 → Int32 → Option (Int32)
  | 0, _, _ => none
  | n + 1, x1, x2 => if (8) ≤ x2 then (some (x1)) else ((fl_rd σ 10 8 x2).bind fun v6 => (if (1000000000) ≤ v6 then (some (x1)) else (some ((x1 ||| ((1) <<< (x2 &&& 31)))))).bind fun (w10 : Int32) => f_X1_nodesBehindExcess_l13 σ n w10 (x2 + 1))
def f_X1_nodesBehindExcess (σ : fl_St) : Option (Int32 × fl_St) := (f_X1_startAtExcess  σ).bind fun σ2 => (f_X1_measure (-1) σ2).bind fun σ4 => (f_X1_nodesBehindExcess_l13 σ4 fl_N (0) (0)).bind fun (w13 : Int32) => some (w13, σ4)
def rm_X1_nodesBehindExcess : Room := { frames := 2, cells := 0, slots := 0, locals := 46 }
set_option maxHeartbeats 4000000 in
set_option maxRecDepth 100000 in
theorem c_X1_nodesBehindExcess (l : Launch) (D : va_G) (ad : Nat → Nat) (cz : Nat → ClassId) (σ : fl_St) {r : Int32} {σ' : fl_St} (h : f_X1_nodesBehindExcess σ = some (r, σ')) : gMi l yX1_nodesBehindExcess wsX1_nodesBehindExcess rm_X1_nodesBehindExcess D (wc ad cz) (wcT cz) wcN [.ref (ad 2)] σ r σ' := by
  refine gMi_of (cc := cX1_nodesBehindExcess) (maxL := 3) (by decide) rfl (Nat.le_of_ble_eq_true rfl) ?_
  intro p e s m args below meth c A Q ls hx hb hml hown hts hK hA hg hl hret
  have hown : s.vm.findClass RX1 = some m.cls := hown
  have hl : lv_has ls 3 [(0, .ref (ad 2))] := hl
  have k_0 := hts (.fieldLink RX1 34 "FlowLedger$Router" "distance" "[I") (by decide +kernel)
  have k_1 := (by decide +kernel : ∀ w ∈ wsX10, w ∈ wsX1_nodesBehindExcess)
  have k_2 := hts (.constant RX1 77 (1000000000)) (by decide +kernel)
  have L13 : ∀ (n : Nat) (σ : fl_St) (x1 : Int32) (x2 : Int32) (o1 : Int32) (H : Heap) (locs : List Loc) (ls : Array Slot), f_X1_nodesBehindExcess_l13 σ n x1 x2 = some (o1) → gS D (wc ad cz) A s.heap σ H locs → lv_has ls 3 [(0, .ref (ad 2)), (1, .int x1), (2, .int x2)] → (∀ (H : Heap) (locs : List Loc) (ls : Array Slot), gS D (wc ad cz) A s.heap σ H locs → lv_has ls 3 [(1, .int o1)] → W p l e rm_X1_nodesBehindExcess s m args below meth c H locs 0 0 Q (F0 m 42 ls [])) → W p l e rm_X1_nodesBehindExcess s m args below meth c H locs 0 0 Q (F0 m 13 ls []) := by
    intro n
    induction n with
    | zero =>
      intro σ x1 x2 o1 H locs ls h hg hl kk0
      rw [f_X1_nodesBehindExcess_l13] at h
      cases h
    | succ n ih =>
      intro σ x1 x2 o1 H locs ls h hg hl kk0
      rw [f_X1_nodesBehindExcess_l13] at h
      refine lv_iload_n hx hb dX1_nodesBehindExcess_13 rfl (lv_at hl 2 rfl) ?_
      refine lv_bipush (v := (8)) hx hb dX1_nodesBehindExcess_14 (by decide) ?_
      refine lv_icmp_ge (tgt := 42) hx hb dX1_nodesBehindExcess_16 (by decide) (fun c5 => ?_) (fun c5 => ?_)
      · have h := fl_ifp c5 h
        obtain rfl := fl_s1 h
        exact kk0 H locs ls hg (lv_sub hl [1] rfl)
      · have h := fl_ifn c5 h
        refine lv_aload_n hx hb dX1_nodesBehindExcess_19 rfl (lv_at hl 0 rfl) ?_
        refine va_get (D := D) (ci := 1) (v := .ref (ad 13)) (C := RX1) (T := TX1) (N := 8) hx hb hts k_1 hown hK.1 hg.1 2 rfl rfl 6 (by decide) k_0 (fun _ h9 => h9) rfl dX1_nodesBehindExcess_20 ?_
        refine lv_iload_n hx hb dX1_nodesBehindExcess_23 rfl (lv_at hl 2 rfl) ?_
        obtain ⟨v6, i7, e8, h⟩ := fl_rd_b h
        refine g_ld (n := 8) (t0 := 10) hx hb hK hg (wc_a10 ad cz _) rfl i7 e8 dX1_nodesBehindExcess_24 ?_
        refine lv_ldc hx hb hown k_2 dX1_nodesBehindExcess_25 ?_
        obtain ⟨w10, hB12, h⟩ := fl_bnd h
        have J11 : ∀ (H : Heap) (locs : List Loc) (ls : Array Slot), gS D (wc ad cz) A s.heap σ H locs → lv_has ls 3 [(0, .ref (ad 2)), (1, .int w10), (2, .int x2)] → W p l e rm_X1_nodesBehindExcess s m args below meth c H locs 0 0 Q (F0 m 36 ls []) := by
          intro H locs ls hg hl
          refine lv_iinc (v := (x2 + 1)) (lv' := [(2, .int (x2 + 1)), (0, .ref (ad 2)), (1, .int w10)]) hx hb dX1_nodesBehindExcess_36 hl (k := 2) rfl rfl (by decide) rfl (fun ls hl => ?_)
          refine lv_goto (tgt := 13) hx hb dX1_nodesBehindExcess_39 (by decide) ?_
          exact ih _ _ _ _ _ _ _ h hg (lv_sub hl [1, 2, 0] rfl) kk0
        clear h
        have h := hB12
        refine lv_icmp_ge (tgt := 36) hx hb dX1_nodesBehindExcess_27 (by decide) (fun c9 => ?_) (fun c9 => ?_)
        · have h := fl_ifp c9 h
          obtain rfl := fl_s1 h
          exact J11 H locs ls hg (lv_sub hl [0, 1, 2] rfl)
        · have h := fl_ifn c9 h
          refine lv_iload_n hx hb dX1_nodesBehindExcess_30 rfl (lv_at hl 1 rfl) ?_
          refine lv_iconst (v := (1)) hx hb dX1_nodesBehindExcess_31 (by decide) ?_
          refine lv_iload_n hx hb dX1_nodesBehindExcess_32 rfl (lv_at hl 2 rfl) ?_
          refine lv_ishl hx hb dX1_nodesBehindExcess_33 ?_
          refine lv_ior hx hb dX1_nodesBehindExcess_34 ?_
          refine lv_istore_n (lv' := [(1, .int (x1 ||| ((1) <<< (x2 &&& 31)))), (0, .ref (ad 2)), (2, .int x2)]) hx hb dX1_nodesBehindExcess_35 rfl hl (by decide) rfl (fun ls hl => ?_)
          obtain rfl := fl_s1 h
          exact J11 H locs ls hg (lv_sub hl [1, 0, 2] rfl)
  unfold f_X1_nodesBehindExcess at h
  have W0 : ∀ (H : Heap) (locs : List Loc), gS D (wc ad cz) A s.heap σ H locs → W p l e rm_X1_nodesBehindExcess s m args below meth c H locs 0 0 Q (F0 m 0 ls []) := by
    intro H locs hg
    refine lv_aload_n hx hb dX1_nodesBehindExcess_0 rfl (lv_at hl 0 rfl) ?_
    obtain ⟨σ2, e1, h⟩ := fl_bnd h
    refine g_callVv (As := []) (rest := []) ⟨hx, hb, hml, hown, hts⟩ (c_X1_startAtExcess l D ad cz (σ) e1) (cwV 0 hts gX1_nodesBehindExcess_X1_startAtExcess rfl rfl rfl (by decide +kernel) ⟨Nat.le_of_ble_eq_true rfl, Nat.le_of_ble_eq_true rfl⟩) (va_recv hK.1 hg.1 (ci := 1) (q0 := 2) rfl rfl) hK hA hg rfl hl.1 rfl (Nat.le_of_ble_eq_true rfl) dX1_nodesBehindExcess_1 ⟨Nat.le_of_ble_eq_true rfl, Nat.le_of_ble_eq_true rfl⟩ (fun H locs hg => ?_)
    refine lv_aload_n hx hb dX1_nodesBehindExcess_4 rfl (lv_at hl 0 rfl) ?_
    refine lv_iconst (v := (-1)) hx hb dX1_nodesBehindExcess_5 (by decide) ?_
    obtain ⟨σ4, e3, h⟩ := fl_bnd h
    refine g_callVv (As := [.int (-1)]) (rest := []) ⟨hx, hb, hml, hown, hts⟩ (c_X1_measure l D ad cz ((-1)) (σ2) e3) (cwV 1 hts gX1_nodesBehindExcess_X1_measure rfl rfl rfl (by decide +kernel) ⟨Nat.le_of_ble_eq_true rfl, Nat.le_of_ble_eq_true rfl⟩) (va_recv hK.1 hg.1 (ci := 1) (q0 := 2) rfl rfl) hK hA hg rfl hl.1 rfl (Nat.le_of_ble_eq_true rfl) dX1_nodesBehindExcess_6 ⟨Nat.le_of_ble_eq_true rfl, Nat.le_of_ble_eq_true rfl⟩ (fun H locs hg => ?_)
    refine lv_iconst (v := (0)) hx hb dX1_nodesBehindExcess_9 (by decide) ?_
    refine lv_istore_n (lv' := [(1, .int (0)), (0, .ref (ad 2))]) hx hb dX1_nodesBehindExcess_10 rfl hl (by decide) rfl (fun ls hl => ?_)
    refine lv_iconst (v := (0)) hx hb dX1_nodesBehindExcess_11 (by decide) ?_
    refine lv_istore_n (lv' := [(2, .int (0)), (1, .int (0)), (0, .ref (ad 2))]) hx hb dX1_nodesBehindExcess_12 rfl hl (by decide) rfl (fun ls hl => ?_)
    obtain ⟨w13, hB14, h⟩ := fl_bnd h
    refine L13 fl_N _ _ _ _ H locs ls hB14 hg (lv_sub hl [2, 1, 0] rfl) (fun H locs ls hg hl => ?_)
    refine lv_iload_n hx hb dX1_nodesBehindExcess_42 rfl (lv_at hl 0 rfl) ?_
    exact hret _ _ _ _ _ _ h hg rfl dX1_nodesBehindExcess_43
  exact W0 _ _ hg
def f_X1_canReach_l3 (x1 : Int32) (x2 : Int32) (x3 : Int32) : Nat → Int32 → fl_St → Option (fl_St)
  | 0, _, _ => none
  | n + 1, x4, σ => if (8) ≤ x4 then (some (σ)) else ((if x4 = x1 then (some ((1))) else (some ((0)))).bind fun (t3 : Int32) => (f_X1_setStart x4 t3 σ).bind fun σ7 => f_X1_canReach_l3 x1 x2 x3 n (x4 + 1) σ7)
def f_X1_canReach (x1 : Int32) (x2 : Int32) (x3 : Int32) (σ : fl_St) : Option (Int32 × fl_St) := (f_X1_canReach_l3 x1 x2 x3 fl_N (0) σ).bind fun (σ8 : fl_St) => (f_X1_measure x3 σ8).bind fun σ11 => (fl_rd σ11 10 8 x2).bind fun v12 => (if (1000000000) ≤ v12 then (some ((0))) else (some ((1)))).bind fun (t16 : Int32) => if ¬ (t16 = 0 ∨ t16 = 1) then none else some (t16, σ11)
def rm_X1_canReach : Room := { frames := 2, cells := 0, slots := 0, locals := 46 }
set_option maxHeartbeats 4000000 in
set_option maxRecDepth 100000 in
theorem c_X1_canReach (l : Launch) (D : va_G) (ad : Nat → Nat) (cz : Nat → ClassId) (x1 : Int32) (x2 : Int32) (x3 : Int32) (σ : fl_St) {r : Int32} {σ' : fl_St} (h : f_X1_canReach x1 x2 x3 σ = some (r, σ')) : gMi l yX1_canReach wsX1_canReach rm_X1_canReach D (wc ad cz) (wcT cz) wcN [.ref (ad 2), .int x1, .int x2, .int x3] σ r σ' := by
  refine gMi_of (cc := cX1_canReach) (maxL := 5) (by decide) rfl (Nat.le_of_ble_eq_true rfl) ?_
  intro p e s m args below meth c A Q ls hx hb hml hown hts hK hA hg hl hret
  have hown : s.vm.findClass RX1 = some m.cls := hown
  have hl : lv_has ls 5 [(0, .ref (ad 2)), (1, .int x1), (2, .int x2), (3, .int x3)] := hl
  have k_0 := hts (.fieldLink RX1 34 "FlowLedger$Router" "distance" "[I") (by decide +kernel)
  have k_1 := (by decide +kernel : ∀ w ∈ wsX10, w ∈ wsX1_canReach)
  have k_2 := hts (.constant RX1 77 (1000000000)) (by decide +kernel)
  have L3 : ∀ (n : Nat) (x1 : Int32) (x2 : Int32) (x3 : Int32) (x4 : Int32) (σ : fl_St) (σo : fl_St) (H : Heap) (locs : List Loc) (ls : Array Slot), f_X1_canReach_l3 x1 x2 x3 n x4 σ = some (σo) → gS D (wc ad cz) A s.heap σ H locs → lv_has ls 5 [(0, .ref (ad 2)), (1, .int x1), (2, .int x2), (3, .int x3), (4, .int x4)] → (∀ (H : Heap) (locs : List Loc) (ls : Array Slot), gS D (wc ad cz) A s.heap σo H locs → lv_has ls 5 [(0, .ref (ad 2)), (2, .int x2), (3, .int x3)] → W p l e rm_X1_canReach s m args below meth c H locs 0 0 Q (F0 m 33 ls [])) → W p l e rm_X1_canReach s m args below meth c H locs 0 0 Q (F0 m 3 ls []) := by
    intro n
    induction n with
    | zero =>
      intro x1 x2 x3 x4 σ σo H locs ls h hg hl kk0
      rw [f_X1_canReach_l3] at h
      cases h
    | succ n ih =>
      intro x1 x2 x3 x4 σ σo H locs ls h hg hl kk0
      rw [f_X1_canReach_l3] at h
      refine lv_iload hx hb dX1_canReach_3 (lv_at hl 4 rfl) ?_
      refine lv_bipush (v := (8)) hx hb dX1_canReach_5 (by decide) ?_
      refine lv_icmp_ge (tgt := 33) hx hb dX1_canReach_7 (by decide) (fun c1 => ?_) (fun c1 => ?_)
      · have h := fl_ifp c1 h
        obtain rfl := fl_s1 h
        exact kk0 H locs ls hg (lv_sub hl [0, 2, 3] rfl)
      · have h := fl_ifn c1 h
        refine lv_aload_n hx hb dX1_canReach_10 rfl (lv_at hl 0 rfl) ?_
        refine lv_iload hx hb dX1_canReach_11 (lv_at hl 4 rfl) ?_
        refine lv_iload hx hb dX1_canReach_13 (lv_at hl 4 rfl) ?_
        refine lv_iload_n hx hb dX1_canReach_15 rfl (lv_at hl 1 rfl) ?_
        obtain ⟨t3, hB5, h⟩ := fl_bnd h
        have J4 : ∀ (H : Heap) (locs : List Loc) (ls : Array Slot), gS D (wc ad cz) A s.heap σ H locs → lv_has ls 5 [(0, .ref (ad 2)), (1, .int x1), (2, .int x2), (3, .int x3), (4, .int x4)] → W p l e rm_X1_canReach s m args below meth c H locs 0 0 Q (F0 m 24 ls [.int t3, .int x4, .ref (ad 2)]) := by
          intro H locs ls hg hl
          obtain ⟨σ7, e6, h⟩ := fl_bnd h
          refine g_callVv (As := [.int x4, .int t3]) (rest := []) ⟨hx, hb, hml, hown, hts⟩ (c_X1_setStart l D ad cz (x4) (t3) (σ) e6) (cwV 2 hts gX1_canReach_X1_setStart rfl rfl rfl (by decide +kernel) ⟨Nat.le_of_ble_eq_true rfl, Nat.le_of_ble_eq_true rfl⟩) (va_recv hK.1 hg.1 (ci := 1) (q0 := 2) rfl rfl) hK hA hg rfl hl.1 rfl (Nat.le_of_ble_eq_true rfl) dX1_canReach_24 ⟨Nat.le_of_ble_eq_true rfl, Nat.le_of_ble_eq_true rfl⟩ (fun H locs hg => ?_)
          refine lv_iinc (v := (x4 + 1)) (lv' := [(4, .int (x4 + 1)), (0, .ref (ad 2)), (1, .int x1), (2, .int x2), (3, .int x3)]) hx hb dX1_canReach_27 hl (k := 4) rfl rfl (by decide) rfl (fun ls hl => ?_)
          refine lv_goto (tgt := 3) hx hb dX1_canReach_30 (by decide) ?_
          exact ih _ _ _ _ _ _ _ _ _ h hg (lv_sub hl [1, 2, 3, 4, 0] rfl) kk0
        clear h
        have h := hB5
        refine lv_icmp_ne (tgt := 23) hx hb dX1_canReach_16 (by decide) (fun c2 => ?_) (fun c2 => ?_)
        · have h := fl_ifn c2 h
          refine lv_iconst (v := (0)) hx hb dX1_canReach_23 (by decide) ?_
          obtain rfl := fl_s1 h
          exact J4 H locs ls hg (lv_sub hl [0, 1, 2, 3, 4] rfl)
        · have h := fl_ifp c2 h
          refine lv_iconst (v := (1)) hx hb dX1_canReach_19 (by decide) ?_
          refine lv_goto (tgt := 24) hx hb dX1_canReach_20 (by decide) ?_
          obtain rfl := fl_s1 h
          exact J4 H locs ls hg (lv_sub hl [0, 1, 2, 3, 4] rfl)
  unfold f_X1_canReach at h
  have W0 : ∀ (H : Heap) (locs : List Loc), gS D (wc ad cz) A s.heap σ H locs → W p l e rm_X1_canReach s m args below meth c H locs 0 0 Q (F0 m 0 ls []) := by
    intro H locs hg
    refine lv_iconst (v := (0)) hx hb dX1_canReach_0 (by decide) ?_
    refine lv_istore (lv' := [(4, .int (0)), (0, .ref (ad 2)), (1, .int x1), (2, .int x2), (3, .int x3)]) hx hb dX1_canReach_1 hl (by decide) rfl (fun ls hl => ?_)
    obtain ⟨σ8, hB9, h⟩ := fl_bnd h
    refine L3 fl_N _ _ _ _ _ _ H locs ls hB9 hg (lv_sub hl [1, 2, 3, 4, 0] rfl) (fun H locs ls hg hl => ?_)
    refine lv_aload_n hx hb dX1_canReach_33 rfl (lv_at hl 0 rfl) ?_
    refine lv_iload_n hx hb dX1_canReach_34 rfl (lv_at hl 2 rfl) ?_
    obtain ⟨σ11, e10, h⟩ := fl_bnd h
    refine g_callVv (As := [.int x3]) (rest := []) ⟨hx, hb, hml, hown, hts⟩ (c_X1_measure l D ad cz (x3) (σ8) e10) (cwV 1 hts gX1_canReach_X1_measure rfl rfl rfl (by decide +kernel) ⟨Nat.le_of_ble_eq_true rfl, Nat.le_of_ble_eq_true rfl⟩) (va_recv hK.1 hg.1 (ci := 1) (q0 := 2) rfl rfl) hK hA hg rfl hl.1 rfl (Nat.le_of_ble_eq_true rfl) dX1_canReach_35 ⟨Nat.le_of_ble_eq_true rfl, Nat.le_of_ble_eq_true rfl⟩ (fun H locs hg => ?_)
    refine lv_aload_n hx hb dX1_canReach_38 rfl (lv_at hl 0 rfl) ?_
    refine va_get (D := D) (ci := 1) (v := .ref (ad 13)) (C := RX1) (T := TX1) (N := 8) hx hb hts k_1 hown hK.1 hg.1 2 rfl rfl 6 (by decide) k_0 (fun _ h9 => h9) rfl dX1_canReach_39 ?_
    refine lv_iload_n hx hb dX1_canReach_42 rfl (lv_at hl 1 rfl) ?_
    obtain ⟨v12, i13, e14, h⟩ := fl_rd_b h
    refine g_ld (n := 8) (t0 := 10) hx hb hK hg (wc_a10 ad cz _) rfl i13 e14 dX1_canReach_43 ?_
    refine lv_ldc hx hb hown k_2 dX1_canReach_44 ?_
    obtain ⟨t16, hB18, h⟩ := fl_bnd h
    have J17 : ∀ (H : Heap) (locs : List Loc) (ls : Array Slot), gS D (wc ad cz) A s.heap σ11 H locs → lv_has ls 5 [] → W p l e rm_X1_canReach s m args below meth c H locs 0 0 Q (F0 m 54 ls [.int t16]) := by
      intro H locs ls hg hl
      obtain ⟨z19, h⟩ := fl_bool h
      exact hret _ _ _ _ _ _ h hg (fl_nar2 z19) dX1_canReach_54
    clear h
    have h := hB18
    refine lv_icmp_ge (tgt := 53) hx hb dX1_canReach_46 (by decide) (fun c15 => ?_) (fun c15 => ?_)
    · have h := fl_ifp c15 h
      refine lv_iconst (v := (0)) hx hb dX1_canReach_53 (by decide) ?_
      obtain rfl := fl_s1 h
      exact J17 H locs ls hg (lv_sub hl [] rfl)
    · have h := fl_ifn c15 h
      refine lv_iconst (v := (1)) hx hb dX1_canReach_49 (by decide) ?_
      refine lv_goto (tgt := 54) hx hb dX1_canReach_50 (by decide) ?_
      obtain rfl := fl_s1 h
      exact J17 H locs ls hg (lv_sub hl [] rfl)
  exact W0 _ _ hg
