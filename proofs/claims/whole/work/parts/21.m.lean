def f_X3_pushAll_l30 (fi : Nat) (x2 : Int32) (x3 : Int32) (x4 : Int32) (x5 : Int32) (σ : fl_St) : Nat → Int32 → Int32 → Option (Int32)
  | 0, _, _ => none
  | n + 1, x6, x7 => if x7 = x2 then (some (x6)) else ((fl_rd σ 11 10 x7).bind fun v7 => (if v7 < 0 then ((fl_rd σ 11 10 x7).bind fun v37 => (fl_rd σ fi 36 ((-1) - v37)).bind fun v40 => some (v40)) else ((fl_rd σ 11 10 x7).bind fun v43 => (fl_rd σ 2 36 v43).bind fun v46 => (fl_rd σ 11 10 x7).bind fun v49 => (fl_rd σ fi 36 v49).bind fun v52 => some ((v46 - v52)))).bind fun (t11 : Int32) => (if x6 ≤ t11 then (some (x6)) else (some (t11))).bind fun (t15 : Int32) => (fl_rd σ 11 10 x7).bind fun v18 => (if v18 < 0 then ((fl_rd σ 11 10 x7).bind fun v25 => (fl_rd σ 1 36 ((-1) - v25)).bind fun v28 => some (v28)) else ((fl_rd σ 11 10 x7).bind fun v31 => (fl_rd σ 0 36 v31).bind fun v34 => some (v34))).bind fun (t22 : Int32) => f_X3_pushAll_l30 fi x2 x3 x4 x5 σ n t15 t22)
def f_X3_pushAll_l147 (fi : Nat) (x2 : Int32) (x3 : Int32) (x4 : Int32) (x5 : Int32) (x6 : Int32) : Nat → Int32 → fl_St → Option (fl_St)
  | 0, _, _ => none
  | n + 1, x7, σ => if x7 = x2 then (some (σ)) else ((fl_rd σ 11 10 x7).bind fun v58 => (if v58 < 0 then ((fl_rd σ 11 10 x7).bind fun v84 => (fl_rd σ fi 36 ((-1) - v84)).bind fun v87 => (fl_wr σ fi 36 ((-1) - v84) (v87 - x6)).bind fun σ90 => some (σ90)) else ((fl_rd σ 11 10 x7).bind fun v93 => (fl_rd σ fi 36 v93).bind fun v96 => (fl_wr σ fi 36 v93 (v96 + x6)).bind fun σ99 => some (σ99))).bind fun (σ62 : fl_St) => (fl_rd σ62 11 10 x7).bind fun v65 => (if v65 < 0 then ((fl_rd σ62 11 10 x7).bind fun v72 => (fl_rd σ62 1 36 ((-1) - v72)).bind fun v75 => some (v75)) else ((fl_rd σ62 11 10 x7).bind fun v78 => (fl_rd σ62 0 36 v78).bind fun v81 => some (v81))).bind fun (t69 : Int32) => f_X3_pushAll_l147 fi x2 x3 x4 x5 x6 n t69 σ62)
def f_X3_pushAll_l3 (fi : Nat) (x2 : Int32) (x3 : Int32) (x4 : Int32) : Nat → Int32 → fl_St → Option (Int32 × fl_St)
  | 0, _, _ => none
  | n + 1, x5, σ => if x4 ≤ x5 then (some (x5, σ)) else (fl_b2 (f_X3_isReached fi x2 x3 σ) fun r3 σ4 => if r3 = 0 then (some (x5, σ4)) else ((f_X3_pushAll_l30 fi x2 x3 x4 x5 σ4 fl_N (x4 - x5) x3).bind fun (w55 : Int32) => (f_X3_pushAll_l147 fi x2 x3 x4 x5 w55 fl_N x3 σ4).bind fun (σ102 : fl_St) => f_X3_pushAll_l3 fi x2 x3 x4 n (x5 + w55) σ102))
def f_X3_pushAll (fi : Nat) (x2 : Int32) (x3 : Int32) (x4 : Int32) (σ : fl_St) : Option (Int32 × fl_St) := fl_b2 (f_X3_pushAll_l3 fi x2 x3 x4 fl_N (0) σ) fun (w104 : Int32) (σ105 : fl_St) => some (w104, σ105)
def rm_X3_pushAll : Room := { frames := 2, cells := 0, slots := 0, locals := 51 }
set_option maxHeartbeats 4000000 in
set_option maxRecDepth 100000 in
theorem c_X3_pushAll (l : Launch) (D : va_G) (ad : Nat → Nat) (cz : Nat → ClassId) {fi : Nat} (hfi : fi = 5 ∨ fi = 6) (x2 : Int32) (x3 : Int32) (x4 : Int32) (σ : fl_St) {r : Int32} {σ' : fl_St} (h : f_X3_pushAll fi x2 x3 x4 σ = some (r, σ')) : gMi l yX3_pushAll wsX3_pushAll rm_X3_pushAll D (wm ad cz) (wmT cz) [] [.ref (ad 0), .ref (ad (fi + 1)), .int x2, .int x3, .int x4] σ r σ' := by
  refine gMi_of (cc := cX3_pushAll) (maxL := 9) (by decide) rfl (Nat.le_of_ble_eq_true rfl) ?_
  intro p e s m args below meth c A Q ls hx hb hml hown hts hK hA hg hl hret
  have hown : s.vm.findClass RX3 = some m.cls := hown
  have hl : lv_has ls 9 [(0, .ref (ad 0)), (1, .ref (ad (fi + 1))), (2, .int x2), (3, .int x3), (4, .int x4)] := hl
  have k_0 := hts (.fieldLink RX3 44 "FlowLedgerModel" "way" "[I") (by decide +kernel)
  have k_1 := (by decide +kernel : ∀ w ∈ wsX30, w ∈ wsX3_pushAll)
  have k_2 := hts (.fieldLink RX3 13 "FlowLedgerModel" "tos" "[I") (by decide +kernel)
  have k_3 := hts (.fieldLink RX3 7 "FlowLedgerModel" "froms" "[I") (by decide +kernel)
  have k_4 := hts (.fieldLink RX3 16 "FlowLedgerModel" "capacities" "[I") (by decide +kernel)
  have L30 : ∀ (n : Nat) (x2 : Int32) (x3 : Int32) (x4 : Int32) (x5 : Int32) (σ : fl_St) (x6 : Int32) (x7 : Int32) (o6 : Int32) (H : Heap) (locs : List Loc) (ls : Array Slot), f_X3_pushAll_l30 fi x2 x3 x4 x5 σ n x6 x7 = some (o6) → gS D (wm ad cz) A s.heap σ H locs → lv_has ls 9 [(0, .ref (ad 0)), (1, .ref (ad (fi + 1))), (2, .int x2), (3, .int x3), (4, .int x4), (5, .int x5), (6, .int x6), (7, .int x7)] → (∀ (H : Heap) (locs : List Loc) (ls : Array Slot), gS D (wm ad cz) A s.heap σ H locs → lv_has ls 9 [(0, .ref (ad 0)), (1, .ref (ad (fi + 1))), (2, .int x2), (3, .int x3), (4, .int x4), (5, .int x5), (6, .int o6)] → W p l e rm_X3_pushAll s m args below meth c H locs 0 0 Q (F0 m 144 ls [])) → W p l e rm_X3_pushAll s m args below meth c H locs 0 0 Q (F0 m 30 ls []) := by
    intro n
    induction n with
    | zero =>
      intro x2 x3 x4 x5 σ x6 x7 o6 H locs ls h hg hl kk0
      rw [f_X3_pushAll_l30] at h
      cases h
    | succ n ih =>
      intro x2 x3 x4 x5 σ x6 x7 o6 H locs ls h hg hl kk0
      rw [f_X3_pushAll_l30] at h
      refine lv_iload hx hb dX3_pushAll_30 (lv_at hl 7 rfl) ?_
      refine lv_iload_n hx hb dX3_pushAll_32 rfl (lv_at hl 2 rfl) ?_
      refine lv_icmp_eq (tgt := 144) hx hb dX3_pushAll_33 (by decide) (fun c6 => ?_) (fun c6 => ?_)
      · have h := fl_ifp c6 h
        obtain rfl := fl_s1 h
        exact kk0 H locs ls hg (lv_sub hl [0, 1, 2, 3, 4, 5, 6] rfl)
      · have h := fl_ifn c6 h
        refine lv_aload_n hx hb dX3_pushAll_36 rfl (lv_at hl 0 rfl) ?_
        refine va_get (D := D) (ci := 3) (v := .ref (ad 12)) (C := RX3) (T := TX3) (N := 16) hx hb hts k_1 hown hK.1 hg.1 0 rfl rfl 14 (by decide) k_0 (fun _ h9 => h9) rfl dX3_pushAll_37 ?_
        refine lv_iload hx hb dX3_pushAll_40 (lv_at hl 7 rfl) ?_
        obtain ⟨v7, i8, e9, h⟩ := fl_rd_b h
        refine g_ld (n := 10) (t0 := 11) hx hb hK hg (wm_a11 ad cz _) rfl i8 e9 dX3_pushAll_42 ?_
        obtain ⟨t11, hB13, h⟩ := fl_bnd h
        have J12 : ∀ (H : Heap) (locs : List Loc) (ls : Array Slot), gS D (wm ad cz) A s.heap σ H locs → lv_has ls 9 [(0, .ref (ad 0)), (1, .ref (ad (fi + 1))), (2, .int x2), (3, .int x3), (4, .int x4), (5, .int x5), (6, .int x6), (7, .int x7)] → W p l e rm_X3_pushAll s m args below meth c H locs 0 0 Q (F0 m 82 ls [.int t11]) := by
          intro H locs ls hg hl
          refine lv_istore (lv' := [(8, .int t11), (0, .ref (ad 0)), (1, .ref (ad (fi + 1))), (2, .int x2), (3, .int x3), (4, .int x4), (5, .int x5), (6, .int x6), (7, .int x7)]) hx hb dX3_pushAll_82 hl (by decide) rfl (fun ls hl => ?_)
          refine lv_iload hx hb dX3_pushAll_84 (lv_at hl 0 rfl) ?_
          refine lv_iload hx hb dX3_pushAll_86 (lv_at hl 7 rfl) ?_
          obtain ⟨t15, hB17, h⟩ := fl_bnd h
          have J16 : ∀ (H : Heap) (locs : List Loc) (ls : Array Slot), gS D (wm ad cz) A s.heap σ H locs → lv_has ls 9 [(0, .ref (ad 0)), (1, .ref (ad (fi + 1))), (2, .int x2), (3, .int x3), (4, .int x4), (5, .int x5), (7, .int x7)] → W p l e rm_X3_pushAll s m args below meth c H locs 0 0 Q (F0 m 98 ls [.int t15]) := by
            intro H locs ls hg hl
            refine lv_istore (lv' := [(6, .int t15), (0, .ref (ad 0)), (1, .ref (ad (fi + 1))), (2, .int x2), (3, .int x3), (4, .int x4), (5, .int x5), (7, .int x7)]) hx hb dX3_pushAll_98 hl (by decide) rfl (fun ls hl => ?_)
            refine lv_aload_n hx hb dX3_pushAll_100 rfl (lv_at hl 1 rfl) ?_
            refine va_get (D := D) (ci := 3) (v := .ref (ad 12)) (C := RX3) (T := TX3) (N := 16) hx hb hts k_1 hown hK.1 hg.1 0 rfl rfl 14 (by decide) k_0 (fun _ h9 => h9) rfl dX3_pushAll_101 ?_
            refine lv_iload hx hb dX3_pushAll_104 (lv_at hl 7 rfl) ?_
            obtain ⟨v18, i19, e20, h⟩ := fl_rd_b h
            refine g_ld (n := 10) (t0 := 11) hx hb hK hg (wm_a11 ad cz _) rfl i19 e20 dX3_pushAll_106 ?_
            obtain ⟨t22, hB24, h⟩ := fl_bnd h
            have J23 : ∀ (H : Heap) (locs : List Loc) (ls : Array Slot), gS D (wm ad cz) A s.heap σ H locs → lv_has ls 9 [(0, .ref (ad 0)), (1, .ref (ad (fi + 1))), (2, .int x2), (3, .int x3), (4, .int x4), (5, .int x5), (6, .int t15)] → W p l e rm_X3_pushAll s m args below meth c H locs 0 0 Q (F0 m 139 ls [.int t22]) := by
              intro H locs ls hg hl
              refine lv_istore (lv' := [(7, .int t22), (0, .ref (ad 0)), (1, .ref (ad (fi + 1))), (2, .int x2), (3, .int x3), (4, .int x4), (5, .int x5), (6, .int t15)]) hx hb dX3_pushAll_139 hl (by decide) rfl (fun ls hl => ?_)
              refine lv_goto (tgt := 30) hx hb dX3_pushAll_141 (by decide) ?_
              exact ih _ _ _ _ _ _ _ _ _ _ _ h hg (lv_sub hl [1, 2, 3, 4, 5, 6, 7, 0] rfl) kk0
            clear h
            have h := hB24
            refine lv_if_lt (tgt := 125) hx hb dX3_pushAll_107 (by decide) (fun c21 => ?_) (fun c21 => ?_)
            · have h := fl_ifp c21 h
              refine lv_aload_n hx hb dX3_pushAll_125 rfl (lv_at hl 1 rfl) ?_
              refine va_get (D := D) (ci := 3) (v := .ref (ad 2)) (C := RX3) (T := TX3) (N := 16) hx hb hts k_1 hown hK.1 hg.1 0 rfl rfl 2 (by decide) k_2 (fun _ h9 => h9) rfl dX3_pushAll_126 ?_
              refine lv_iconst (v := (-1)) hx hb dX3_pushAll_129 (by decide) ?_
              refine lv_aload_n hx hb dX3_pushAll_130 rfl (lv_at hl 1 rfl) ?_
              refine va_get (D := D) (ci := 3) (v := .ref (ad 12)) (C := RX3) (T := TX3) (N := 16) hx hb hts k_1 hown hK.1 hg.1 0 rfl rfl 14 (by decide) k_0 (fun _ h9 => h9) rfl dX3_pushAll_131 ?_
              refine lv_iload hx hb dX3_pushAll_134 (lv_at hl 7 rfl) ?_
              obtain ⟨v25, i26, e27, h⟩ := fl_rd_b h
              refine g_ld (n := 10) (t0 := 11) hx hb hK hg (wm_a11 ad cz _) rfl i26 e27 dX3_pushAll_136 ?_
              refine lv_isub hx hb dX3_pushAll_137 ?_
              obtain ⟨v28, i29, e30, h⟩ := fl_rd_b h
              refine g_ld (n := 36) (t0 := 1) hx hb hK hg (wm_a1 ad cz _) rfl i29 e30 dX3_pushAll_138 ?_
              obtain rfl := fl_s1 h
              exact J23 H locs ls hg (lv_sub hl [1, 2, 3, 4, 5, 6, 0] rfl)
            · have h := fl_ifn c21 h
              refine lv_aload_n hx hb dX3_pushAll_110 rfl (lv_at hl 1 rfl) ?_
              refine va_get (D := D) (ci := 3) (v := .ref (ad 1)) (C := RX3) (T := TX3) (N := 16) hx hb hts k_1 hown hK.1 hg.1 0 rfl rfl 1 (by decide) k_3 (fun _ h9 => h9) rfl dX3_pushAll_111 ?_
              refine lv_aload_n hx hb dX3_pushAll_114 rfl (lv_at hl 1 rfl) ?_
              refine va_get (D := D) (ci := 3) (v := .ref (ad 12)) (C := RX3) (T := TX3) (N := 16) hx hb hts k_1 hown hK.1 hg.1 0 rfl rfl 14 (by decide) k_0 (fun _ h9 => h9) rfl dX3_pushAll_115 ?_
              refine lv_iload hx hb dX3_pushAll_118 (lv_at hl 7 rfl) ?_
              obtain ⟨v31, i32, e33, h⟩ := fl_rd_b h
              refine g_ld (n := 10) (t0 := 11) hx hb hK hg (wm_a11 ad cz _) rfl i32 e33 dX3_pushAll_120 ?_
              obtain ⟨v34, i35, e36, h⟩ := fl_rd_b h
              refine g_ld (n := 36) (t0 := 0) hx hb hK hg (wm_a0 ad cz _) rfl i35 e36 dX3_pushAll_121 ?_
              refine lv_goto (tgt := 139) hx hb dX3_pushAll_122 (by decide) ?_
              obtain rfl := fl_s1 h
              exact J23 H locs ls hg (lv_sub hl [1, 2, 3, 4, 5, 6, 0] rfl)
          clear h
          have h := hB17
          refine lv_icmp_ge (tgt := 96) hx hb dX3_pushAll_88 (by decide) (fun c14 => ?_) (fun c14 => ?_)
          · have h := fl_ifp c14 h
            refine lv_iload hx hb dX3_pushAll_96 (lv_at hl 7 rfl) ?_
            obtain rfl := fl_s1 h
            exact J16 H locs ls hg (lv_sub hl [1, 2, 3, 4, 5, 6, 8] rfl)
          · have h := fl_ifn c14 h
            refine lv_iload hx hb dX3_pushAll_91 (lv_at hl 0 rfl) ?_
            refine lv_goto (tgt := 98) hx hb dX3_pushAll_93 (by decide) ?_
            obtain rfl := fl_s1 h
            exact J16 H locs ls hg (lv_sub hl [1, 2, 3, 4, 5, 6, 8] rfl)
        clear h
        have h := hB13
        refine lv_if_lt (tgt := 71) hx hb dX3_pushAll_43 (by decide) (fun c10 => ?_) (fun c10 => ?_)
        · have h := fl_ifp c10 h
          refine lv_aload_n hx hb dX3_pushAll_71 rfl (lv_at hl 1 rfl) ?_
          refine lv_iconst (v := (-1)) hx hb dX3_pushAll_72 (by decide) ?_
          refine lv_aload_n hx hb dX3_pushAll_73 rfl (lv_at hl 0 rfl) ?_
          refine va_get (D := D) (ci := 3) (v := .ref (ad 12)) (C := RX3) (T := TX3) (N := 16) hx hb hts k_1 hown hK.1 hg.1 0 rfl rfl 14 (by decide) k_0 (fun _ h9 => h9) rfl dX3_pushAll_74 ?_
          refine lv_iload hx hb dX3_pushAll_77 (lv_at hl 7 rfl) ?_
          obtain ⟨v37, i38, e39, h⟩ := fl_rd_b h
          refine g_ld (n := 10) (t0 := 11) hx hb hK hg (wm_a11 ad cz _) rfl i38 e39 dX3_pushAll_79 ?_
          refine lv_isub hx hb dX3_pushAll_80 ?_
          obtain ⟨v40, i41, e42, h⟩ := fl_rd_b h
          refine g_ld (n := 36) (t0 := fi) hx hb hK hg (wm_af hfi ad cz _) (wm_tf hfi cz) i41 e42 dX3_pushAll_81 ?_
          obtain rfl := fl_s1 h
          exact J12 H locs ls hg (lv_sub hl [0, 1, 2, 3, 4, 5, 6, 7] rfl)
        · have h := fl_ifn c10 h
          refine lv_aload_n hx hb dX3_pushAll_46 rfl (lv_at hl 0 rfl) ?_
          refine va_get (D := D) (ci := 3) (v := .ref (ad 3)) (C := RX3) (T := TX3) (N := 16) hx hb hts k_1 hown hK.1 hg.1 0 rfl rfl 3 (by decide) k_4 (fun _ h9 => h9) rfl dX3_pushAll_47 ?_
          refine lv_aload_n hx hb dX3_pushAll_50 rfl (lv_at hl 0 rfl) ?_
          refine va_get (D := D) (ci := 3) (v := .ref (ad 12)) (C := RX3) (T := TX3) (N := 16) hx hb hts k_1 hown hK.1 hg.1 0 rfl rfl 14 (by decide) k_0 (fun _ h9 => h9) rfl dX3_pushAll_51 ?_
          refine lv_iload hx hb dX3_pushAll_54 (lv_at hl 7 rfl) ?_
          obtain ⟨v43, i44, e45, h⟩ := fl_rd_b h
          refine g_ld (n := 10) (t0 := 11) hx hb hK hg (wm_a11 ad cz _) rfl i44 e45 dX3_pushAll_56 ?_
          obtain ⟨v46, i47, e48, h⟩ := fl_rd_b h
          refine g_ld (n := 36) (t0 := 2) hx hb hK hg (wm_a2 ad cz _) rfl i47 e48 dX3_pushAll_57 ?_
          refine lv_aload_n hx hb dX3_pushAll_58 rfl (lv_at hl 1 rfl) ?_
          refine lv_aload_n hx hb dX3_pushAll_59 rfl (lv_at hl 0 rfl) ?_
          refine va_get (D := D) (ci := 3) (v := .ref (ad 12)) (C := RX3) (T := TX3) (N := 16) hx hb hts k_1 hown hK.1 hg.1 0 rfl rfl 14 (by decide) k_0 (fun _ h9 => h9) rfl dX3_pushAll_60 ?_
          refine lv_iload hx hb dX3_pushAll_63 (lv_at hl 7 rfl) ?_
          obtain ⟨v49, i50, e51, h⟩ := fl_rd_b h
          refine g_ld (n := 10) (t0 := 11) hx hb hK hg (wm_a11 ad cz _) rfl i50 e51 dX3_pushAll_65 ?_
          obtain ⟨v52, i53, e54, h⟩ := fl_rd_b h
          refine g_ld (n := 36) (t0 := fi) hx hb hK hg (wm_af hfi ad cz _) (wm_tf hfi cz) i53 e54 dX3_pushAll_66 ?_
          refine lv_isub hx hb dX3_pushAll_67 ?_
          refine lv_goto (tgt := 82) hx hb dX3_pushAll_68 (by decide) ?_
          obtain rfl := fl_s1 h
          exact J12 H locs ls hg (lv_sub hl [0, 1, 2, 3, 4, 5, 6, 7] rfl)
  have L147 : ∀ (n : Nat) (x2 : Int32) (x3 : Int32) (x4 : Int32) (x5 : Int32) (x6 : Int32) (x7 : Int32) (σ : fl_St) (σo : fl_St) (H : Heap) (locs : List Loc) (ls : Array Slot), f_X3_pushAll_l147 fi x2 x3 x4 x5 x6 n x7 σ = some (σo) → gS D (wm ad cz) A s.heap σ H locs → lv_has ls 9 [(0, .ref (ad 0)), (1, .ref (ad (fi + 1))), (2, .int x2), (3, .int x3), (4, .int x4), (5, .int x5), (6, .int x6), (7, .int x7)] → (∀ (H : Heap) (locs : List Loc) (ls : Array Slot), gS D (wm ad cz) A s.heap σo H locs → lv_has ls 9 [(0, .ref (ad 0)), (1, .ref (ad (fi + 1))), (2, .int x2), (3, .int x3), (4, .int x4), (5, .int x5), (6, .int x6)] → W p l e rm_X3_pushAll s m args below meth c H locs 0 0 Q (F0 m 240 ls [])) → W p l e rm_X3_pushAll s m args below meth c H locs 0 0 Q (F0 m 147 ls []) := by
    intro n
    induction n with
    | zero =>
      intro x2 x3 x4 x5 x6 x7 σ σo H locs ls h hg hl kk0
      rw [f_X3_pushAll_l147] at h
      cases h
    | succ n ih =>
      intro x2 x3 x4 x5 x6 x7 σ σo H locs ls h hg hl kk0
      rw [f_X3_pushAll_l147] at h
      refine lv_iload hx hb dX3_pushAll_147 (lv_at hl 7 rfl) ?_
      refine lv_iload_n hx hb dX3_pushAll_149 rfl (lv_at hl 2 rfl) ?_
      refine lv_icmp_eq (tgt := 240) hx hb dX3_pushAll_150 (by decide) (fun c57 => ?_) (fun c57 => ?_)
      · have h := fl_ifp c57 h
        obtain rfl := fl_s1 h
        exact kk0 H locs ls hg (lv_sub hl [0, 1, 2, 3, 4, 5, 6] rfl)
      · have h := fl_ifn c57 h
        refine lv_aload_n hx hb dX3_pushAll_153 rfl (lv_at hl 0 rfl) ?_
        refine va_get (D := D) (ci := 3) (v := .ref (ad 12)) (C := RX3) (T := TX3) (N := 16) hx hb hts k_1 hown hK.1 hg.1 0 rfl rfl 14 (by decide) k_0 (fun _ h9 => h9) rfl dX3_pushAll_154 ?_
        refine lv_iload hx hb dX3_pushAll_157 (lv_at hl 7 rfl) ?_
        obtain ⟨v58, i59, e60, h⟩ := fl_rd_b h
        refine g_ld (n := 10) (t0 := 11) hx hb hK hg (wm_a11 ad cz _) rfl i59 e60 dX3_pushAll_159 ?_
        obtain ⟨σ62, hB64, h⟩ := fl_bnd h
        have J63 : ∀ (H : Heap) (locs : List Loc) (ls : Array Slot), gS D (wm ad cz) A s.heap σ62 H locs → lv_has ls 9 [(0, .ref (ad 0)), (1, .ref (ad (fi + 1))), (2, .int x2), (3, .int x3), (4, .int x4), (5, .int x5), (6, .int x6), (7, .int x7)] → W p l e rm_X3_pushAll s m args below meth c H locs 0 0 Q (F0 m 196 ls []) := by
          intro H locs ls hg hl
          refine lv_aload_n hx hb dX3_pushAll_196 rfl (lv_at hl 0 rfl) ?_
          refine va_get (D := D) (ci := 3) (v := .ref (ad 12)) (C := RX3) (T := TX3) (N := 16) hx hb hts k_1 hown hK.1 hg.1 0 rfl rfl 14 (by decide) k_0 (fun _ h9 => h9) rfl dX3_pushAll_197 ?_
          refine lv_iload hx hb dX3_pushAll_200 (lv_at hl 7 rfl) ?_
          obtain ⟨v65, i66, e67, h⟩ := fl_rd_b h
          refine g_ld (n := 10) (t0 := 11) hx hb hK hg (wm_a11 ad cz _) rfl i66 e67 dX3_pushAll_202 ?_
          obtain ⟨t69, hB71, h⟩ := fl_bnd h
          have J70 : ∀ (H : Heap) (locs : List Loc) (ls : Array Slot), gS D (wm ad cz) A s.heap σ62 H locs → lv_has ls 9 [(0, .ref (ad 0)), (1, .ref (ad (fi + 1))), (2, .int x2), (3, .int x3), (4, .int x4), (5, .int x5), (6, .int x6)] → W p l e rm_X3_pushAll s m args below meth c H locs 0 0 Q (F0 m 235 ls [.int t69]) := by
            intro H locs ls hg hl
            refine lv_istore (lv' := [(7, .int t69), (0, .ref (ad 0)), (1, .ref (ad (fi + 1))), (2, .int x2), (3, .int x3), (4, .int x4), (5, .int x5), (6, .int x6)]) hx hb dX3_pushAll_235 hl (by decide) rfl (fun ls hl => ?_)
            refine lv_goto (tgt := 147) hx hb dX3_pushAll_237 (by decide) ?_
            exact ih _ _ _ _ _ _ _ _ _ _ _ h hg (lv_sub hl [1, 2, 3, 4, 5, 6, 7, 0] rfl) kk0
          clear h
          have h := hB71
          refine lv_if_lt (tgt := 221) hx hb dX3_pushAll_203 (by decide) (fun c68 => ?_) (fun c68 => ?_)
          · have h := fl_ifp c68 h
            refine lv_aload_n hx hb dX3_pushAll_221 rfl (lv_at hl 0 rfl) ?_
            refine va_get (D := D) (ci := 3) (v := .ref (ad 2)) (C := RX3) (T := TX3) (N := 16) hx hb hts k_1 hown hK.1 hg.1 0 rfl rfl 2 (by decide) k_2 (fun _ h9 => h9) rfl dX3_pushAll_222 ?_
            refine lv_iconst (v := (-1)) hx hb dX3_pushAll_225 (by decide) ?_
            refine lv_aload_n hx hb dX3_pushAll_226 rfl (lv_at hl 0 rfl) ?_
            refine va_get (D := D) (ci := 3) (v := .ref (ad 12)) (C := RX3) (T := TX3) (N := 16) hx hb hts k_1 hown hK.1 hg.1 0 rfl rfl 14 (by decide) k_0 (fun _ h9 => h9) rfl dX3_pushAll_227 ?_
            refine lv_iload hx hb dX3_pushAll_230 (lv_at hl 7 rfl) ?_
            obtain ⟨v72, i73, e74, h⟩ := fl_rd_b h
            refine g_ld (n := 10) (t0 := 11) hx hb hK hg (wm_a11 ad cz _) rfl i73 e74 dX3_pushAll_232 ?_
            refine lv_isub hx hb dX3_pushAll_233 ?_
            obtain ⟨v75, i76, e77, h⟩ := fl_rd_b h
            refine g_ld (n := 36) (t0 := 1) hx hb hK hg (wm_a1 ad cz _) rfl i76 e77 dX3_pushAll_234 ?_
            obtain rfl := fl_s1 h
            exact J70 H locs ls hg (lv_sub hl [0, 1, 2, 3, 4, 5, 6] rfl)
          · have h := fl_ifn c68 h
            refine lv_aload_n hx hb dX3_pushAll_206 rfl (lv_at hl 0 rfl) ?_
            refine va_get (D := D) (ci := 3) (v := .ref (ad 1)) (C := RX3) (T := TX3) (N := 16) hx hb hts k_1 hown hK.1 hg.1 0 rfl rfl 1 (by decide) k_3 (fun _ h9 => h9) rfl dX3_pushAll_207 ?_
            refine lv_aload_n hx hb dX3_pushAll_210 rfl (lv_at hl 0 rfl) ?_
            refine va_get (D := D) (ci := 3) (v := .ref (ad 12)) (C := RX3) (T := TX3) (N := 16) hx hb hts k_1 hown hK.1 hg.1 0 rfl rfl 14 (by decide) k_0 (fun _ h9 => h9) rfl dX3_pushAll_211 ?_
            refine lv_iload hx hb dX3_pushAll_214 (lv_at hl 7 rfl) ?_
            obtain ⟨v78, i79, e80, h⟩ := fl_rd_b h
            refine g_ld (n := 10) (t0 := 11) hx hb hK hg (wm_a11 ad cz _) rfl i79 e80 dX3_pushAll_216 ?_
            obtain ⟨v81, i82, e83, h⟩ := fl_rd_b h
            refine g_ld (n := 36) (t0 := 0) hx hb hK hg (wm_a0 ad cz _) rfl i82 e83 dX3_pushAll_217 ?_
            refine lv_goto (tgt := 235) hx hb dX3_pushAll_218 (by decide) ?_
            obtain rfl := fl_s1 h
            exact J70 H locs ls hg (lv_sub hl [0, 1, 2, 3, 4, 5, 6] rfl)
        clear h
        have h := hB64
        refine lv_if_lt (tgt := 180) hx hb dX3_pushAll_160 (by decide) (fun c61 => ?_) (fun c61 => ?_)
        · have h := fl_ifp c61 h
          refine lv_aload_n hx hb dX3_pushAll_180 rfl (lv_at hl 1 rfl) ?_
          refine lv_iconst (v := (-1)) hx hb dX3_pushAll_181 (by decide) ?_
          refine lv_aload_n hx hb dX3_pushAll_182 rfl (lv_at hl 0 rfl) ?_
          refine va_get (D := D) (ci := 3) (v := .ref (ad 12)) (C := RX3) (T := TX3) (N := 16) hx hb hts k_1 hown hK.1 hg.1 0 rfl rfl 14 (by decide) k_0 (fun _ h9 => h9) rfl dX3_pushAll_183 ?_
          refine lv_iload hx hb dX3_pushAll_186 (lv_at hl 7 rfl) ?_
          obtain ⟨v84, i85, e86, h⟩ := fl_rd_b h
          refine g_ld (n := 10) (t0 := 11) hx hb hK hg (wm_a11 ad cz _) rfl i85 e86 dX3_pushAll_188 ?_
          refine lv_isub hx hb dX3_pushAll_189 ?_
          refine lv_dup2_11 hx hb dX3_pushAll_190 rfl rfl ?_
          obtain ⟨v87, i88, e89, h⟩ := fl_rd_b h
          refine g_ld (n := 36) (t0 := fi) hx hb hK hg (wm_af hfi ad cz _) (wm_tf hfi cz) i88 e89 dX3_pushAll_191 ?_
          refine lv_iload hx hb dX3_pushAll_192 (lv_at hl 6 rfl) ?_
          refine lv_isub hx hb dX3_pushAll_194 ?_
          obtain ⟨σ90, i91, e92, h⟩ := fl_wr_b h
          refine g_st (n := 36) (t0 := fi) hx hb hK hg (wm_af hfi ad cz _) (wm_sf hfi ad cz _) (wm_tf hfi cz) i91 e92 dX3_pushAll_195 (fun H locs hg => ?_)
          obtain rfl := fl_s1 h
          exact J63 H locs ls hg (lv_sub hl [0, 1, 2, 3, 4, 5, 6, 7] rfl)
        · have h := fl_ifn c61 h
          refine lv_aload_n hx hb dX3_pushAll_163 rfl (lv_at hl 1 rfl) ?_
          refine lv_aload_n hx hb dX3_pushAll_164 rfl (lv_at hl 0 rfl) ?_
          refine va_get (D := D) (ci := 3) (v := .ref (ad 12)) (C := RX3) (T := TX3) (N := 16) hx hb hts k_1 hown hK.1 hg.1 0 rfl rfl 14 (by decide) k_0 (fun _ h9 => h9) rfl dX3_pushAll_165 ?_
          refine lv_iload hx hb dX3_pushAll_168 (lv_at hl 7 rfl) ?_
          obtain ⟨v93, i94, e95, h⟩ := fl_rd_b h
          refine g_ld (n := 10) (t0 := 11) hx hb hK hg (wm_a11 ad cz _) rfl i94 e95 dX3_pushAll_170 ?_
          refine lv_dup2_11 hx hb dX3_pushAll_171 rfl rfl ?_
          obtain ⟨v96, i97, e98, h⟩ := fl_rd_b h
          refine g_ld (n := 36) (t0 := fi) hx hb hK hg (wm_af hfi ad cz _) (wm_tf hfi cz) i97 e98 dX3_pushAll_172 ?_
          refine lv_iload hx hb dX3_pushAll_173 (lv_at hl 6 rfl) ?_
          refine lv_iadd hx hb dX3_pushAll_175 ?_
          obtain ⟨σ99, i100, e101, h⟩ := fl_wr_b h
          refine g_st (n := 36) (t0 := fi) hx hb hK hg (wm_af hfi ad cz _) (wm_sf hfi ad cz _) (wm_tf hfi cz) i100 e101 dX3_pushAll_176 (fun H locs hg => ?_)
          refine lv_goto (tgt := 196) hx hb dX3_pushAll_177 (by decide) ?_
          obtain rfl := fl_s1 h
          exact J63 H locs ls hg (lv_sub hl [0, 1, 2, 3, 4, 5, 6, 7] rfl)
  have L3 : ∀ (n : Nat) (x2 : Int32) (x3 : Int32) (x4 : Int32) (x5 : Int32) (σ : fl_St) (o5 : Int32) (σo : fl_St) (H : Heap) (locs : List Loc) (ls : Array Slot), f_X3_pushAll_l3 fi x2 x3 x4 n x5 σ = some (o5, σo) → gS D (wm ad cz) A s.heap σ H locs → lv_has ls 9 [(0, .ref (ad 0)), (1, .ref (ad (fi + 1))), (2, .int x2), (3, .int x3), (4, .int x4), (5, .int x5)] → (∀ (H : Heap) (locs : List Loc) (ls : Array Slot), gS D (wm ad cz) A s.heap σo H locs → lv_has ls 9 [(5, .int o5)] → W p l e rm_X3_pushAll s m args below meth c H locs 0 0 Q (F0 m 250 ls [])) → W p l e rm_X3_pushAll s m args below meth c H locs 0 0 Q (F0 m 3 ls []) := by
    intro n
    induction n with
    | zero =>
      intro x2 x3 x4 x5 σ o5 σo H locs ls h hg hl kk0
      rw [f_X3_pushAll_l3] at h
      cases h
    | succ n ih =>
      intro x2 x3 x4 x5 σ o5 σo H locs ls h hg hl kk0
      rw [f_X3_pushAll_l3] at h
      refine lv_iload hx hb dX3_pushAll_3 (lv_at hl 5 rfl) ?_
      refine lv_iload hx hb dX3_pushAll_5 (lv_at hl 4 rfl) ?_
      refine lv_icmp_ge (tgt := 250) hx hb dX3_pushAll_7 (by decide) (fun c1 => ?_) (fun c1 => ?_)
      · have h := fl_ifp c1 h
        obtain ⟨rfl, rfl⟩ := fl_s2 h
        exact kk0 H locs ls hg (lv_sub hl [5] rfl)
      · have h := fl_ifn c1 h
        refine lv_aload_n hx hb dX3_pushAll_10 rfl (lv_at hl 0 rfl) ?_
        refine lv_aload_n hx hb dX3_pushAll_11 rfl (lv_at hl 1 rfl) ?_
        refine lv_iload_n hx hb dX3_pushAll_12 rfl (lv_at hl 2 rfl) ?_
        refine lv_iload_n hx hb dX3_pushAll_13 rfl (lv_at hl 3 rfl) ?_
        obtain ⟨r3, σ4, e2, h⟩ := fl_b2_b h
        refine g_callVi (As := [.ref (ad (fi + 1)), .int x2, .int x3]) (rest := []) ⟨hx, hb, hml, hown, hts⟩ (c_X3_isReached l D ad cz (hfi) (x2) (x3) (σ) e2) (cwV 3 hts gX3_pushAll_X3_isReached rfl rfl rfl (by decide +kernel) ⟨Nat.le_of_ble_eq_true rfl, Nat.le_of_ble_eq_true rfl⟩) (va_recv hK.1 hg.1 (ci := 3) (q0 := 0) rfl rfl) hK hA hg rfl hl.1 rfl (Nat.le_of_ble_eq_true rfl) dX3_pushAll_14 ⟨Nat.le_of_ble_eq_true rfl, Nat.le_of_ble_eq_true rfl⟩ (fun H locs hg => ?_)
        refine lv_if_eq (tgt := 250) hx hb dX3_pushAll_17 (by decide) (fun c5 => ?_) (fun c5 => ?_)
        · have h := fl_ifp c5 h
          obtain ⟨rfl, rfl⟩ := fl_s2 h
          exact kk0 H locs ls hg (lv_sub hl [5] rfl)
        · have h := fl_ifn c5 h
          refine lv_iload hx hb dX3_pushAll_20 (lv_at hl 4 rfl) ?_
          refine lv_iload hx hb dX3_pushAll_22 (lv_at hl 5 rfl) ?_
          refine lv_isub hx hb dX3_pushAll_24 ?_
          refine lv_istore (lv' := [(6, .int (x4 - x5)), (0, .ref (ad 0)), (1, .ref (ad (fi + 1))), (2, .int x2), (3, .int x3), (4, .int x4), (5, .int x5)]) hx hb dX3_pushAll_25 hl (by decide) rfl (fun ls hl => ?_)
          refine lv_iload_n hx hb dX3_pushAll_27 rfl (lv_at hl 4 rfl) ?_
          refine lv_istore (lv' := [(7, .int x3), (6, .int (x4 - x5)), (0, .ref (ad 0)), (1, .ref (ad (fi + 1))), (2, .int x2), (3, .int x3), (4, .int x4), (5, .int x5)]) hx hb dX3_pushAll_28 hl (by decide) rfl (fun ls hl => ?_)
          obtain ⟨w55, hB56, h⟩ := fl_bnd h
          refine L30 fl_N _ _ _ _ _ _ _ _ H locs ls hB56 hg (lv_sub hl [2, 3, 4, 5, 6, 7, 1, 0] rfl) (fun H locs ls hg hl => ?_)
          refine lv_iload_n hx hb dX3_pushAll_144 rfl (lv_at hl 3 rfl) ?_
          refine lv_istore (lv' := [(7, .int x3), (0, .ref (ad 0)), (1, .ref (ad (fi + 1))), (2, .int x2), (3, .int x3), (4, .int x4), (5, .int x5), (6, .int w55)]) hx hb dX3_pushAll_145 hl (by decide) rfl (fun ls hl => ?_)
          obtain ⟨σ102, hB103, h⟩ := fl_bnd h
          refine L147 fl_N _ _ _ _ _ _ _ _ H locs ls hB103 hg (lv_sub hl [1, 2, 3, 4, 5, 6, 7, 0] rfl) (fun H locs ls hg hl => ?_)
          refine lv_iload hx hb dX3_pushAll_240 (lv_at hl 5 rfl) ?_
          refine lv_iload hx hb dX3_pushAll_242 (lv_at hl 6 rfl) ?_
          refine lv_iadd hx hb dX3_pushAll_244 ?_
          refine lv_istore (lv' := [(5, .int (x5 + w55)), (0, .ref (ad 0)), (1, .ref (ad (fi + 1))), (2, .int x2), (3, .int x3), (4, .int x4), (6, .int w55)]) hx hb dX3_pushAll_245 hl (by decide) rfl (fun ls hl => ?_)
          refine lv_goto (tgt := 3) hx hb dX3_pushAll_247 (by decide) ?_
          exact ih _ _ _ _ _ _ _ _ _ _ h hg (lv_sub hl [1, 2, 3, 4, 5, 0] rfl) kk0
  unfold f_X3_pushAll at h
  have W0 : ∀ (H : Heap) (locs : List Loc), gS D (wm ad cz) A s.heap σ H locs → W p l e rm_X3_pushAll s m args below meth c H locs 0 0 Q (F0 m 0 ls []) := by
    intro H locs hg
    refine lv_iconst (v := (0)) hx hb dX3_pushAll_0 (by decide) ?_
    refine lv_istore (lv' := [(5, .int (0)), (0, .ref (ad 0)), (1, .ref (ad (fi + 1))), (2, .int x2), (3, .int x3), (4, .int x4)]) hx hb dX3_pushAll_1 hl (by decide) rfl (fun ls hl => ?_)
    obtain ⟨w104, σ105, hB106, h⟩ := fl_b2_b h
    refine L3 fl_N _ _ _ _ _ _ _ H locs ls hB106 hg (lv_sub hl [1, 2, 3, 4, 5, 0] rfl) (fun H locs ls hg hl => ?_)
    refine lv_iload hx hb dX3_pushAll_250 (lv_at hl 0 rfl) ?_
    exact hret _ _ _ _ _ _ h hg rfl dX3_pushAll_252
  exact W0 _ _ hg
def f_X3_fill_l10 : Nat → Int32 → fl_St → Option (fl_St)
  | 0, _, _ => none
  | n + 1, x1, σ => if (8) ≤ x1 then (some (σ)) else ((fl_rd σ 4 8 x1).bind fun v4 => (if v4 ≤ 0 then ((fl_rd σ 4 8 x1).bind fun v11 => if 0 ≤ v11 then (some (σ)) else ((fl_rd σ 4 8 x1).bind fun v15 => (f_X3_lead x1 (9) (-v15) σ).bind fun σ19 => some (σ19))) else ((fl_rd σ 4 8 x1).bind fun v20 => (f_X3_lead (8) x1 v20 σ).bind fun σ24 => some (σ24))).bind fun (σ8 : fl_St) => f_X3_fill_l10 n (x1 + 1) σ8)
def f_X3_fill_l72 : Nat → Int32 → fl_St → Option (fl_St)
  | 0, _, _ => none
  | n + 1, x1, σ => if (σ 13 1) ≤ x1 then (some (σ)) else ((fl_wr σ 5 36 x1 (0)).bind fun σ28 => (fl_wr σ28 10 36 x1 (1)).bind fun σ31 => f_X3_fill_l72 n (x1 + 1) σ31)
def f_X3_fill (σ : fl_St) : Option (Int32 × fl_St) := (some (st σ 13 1 (σ 13 0))).bind fun σ1 => (f_X3_fill_l10 fl_N (0) σ1).bind fun (σ25 : fl_St) => (f_X3_fill_l72 fl_N (0) σ25).bind fun (σ34 : fl_St) => fl_b2 (f_X3_pushAll 5 (8) (9) (1000000) σ34) fun r37 σ38 => some (r37, σ38)
def rm_X3_fill : Room := { frames := 3, cells := 0, slots := 0, locals := 79 }
set_option maxHeartbeats 4000000 in
set_option maxRecDepth 100000 in
theorem c_X3_fill (l : Launch) (D : va_G) (ad : Nat → Nat) (cz : Nat → ClassId) (σ : fl_St) {r : Int32} {σ' : fl_St} (h : f_X3_fill σ = some (r, σ')) : gMi l yX3_fill wsX3_fill rm_X3_fill D (wm ad cz) (wmT cz) [] [.ref (ad 0)] σ r σ' := by
  refine gMi_of (cc := cX3_fill) (maxL := 2) (by decide) rfl (Nat.le_of_ble_eq_true rfl) ?_
  intro p e s m args below meth c A Q ls hx hb hml hown hts hK hA hg hl hret
  have hown : s.vm.findClass RX3 = some m.cls := hown
  have hl : lv_has ls 2 [(0, .ref (ad 0))] := hl
  have k_0 := hts (.fieldLink RX3 55 "FlowLedgerModel" "arcs" "I") (by decide +kernel)
  have k_1 := (by decide +kernel : ∀ w ∈ wsX30, w ∈ wsX3_fill)
  have k_2 := hts (.fieldLink RX3 61 "FlowLedgerModel" "all" "I") (by decide +kernel)
  have k_3 := hts (.fieldLink RX3 22 "FlowLedgerModel" "supplies" "[I") (by decide +kernel)
  have k_4 := hts (.fieldLink RX3 25 "FlowLedgerModel" "flow" "[I") (by decide +kernel)
  have k_5 := hts (.fieldLink RX3 41 "FlowLedgerModel" "allowed" "[Z") (by decide +kernel)
  have k_6 := hts (.constant RX3 60 (1000000)) (by decide +kernel)
  have L10 : ∀ (n : Nat) (x1 : Int32) (σ : fl_St) (σo : fl_St) (H : Heap) (locs : List Loc) (ls : Array Slot), f_X3_fill_l10 n x1 σ = some (σo) → gS D (wm ad cz) A s.heap σ H locs → lv_has ls 2 [(0, .ref (ad 0)), (1, .int x1)] → (∀ (H : Heap) (locs : List Loc) (ls : Array Slot), gS D (wm ad cz) A s.heap σo H locs → lv_has ls 2 [(0, .ref (ad 0))] → W p l e rm_X3_fill s m args below meth c H locs 0 0 Q (F0 m 70 ls [])) → W p l e rm_X3_fill s m args below meth c H locs 0 0 Q (F0 m 10 ls []) := by
    intro n
    induction n with
    | zero =>
      intro x1 σ σo H locs ls h hg hl kk0
      rw [f_X3_fill_l10] at h
      cases h
    | succ n ih =>
      intro x1 σ σo H locs ls h hg hl kk0
      rw [f_X3_fill_l10] at h
      refine lv_iload_n hx hb dX3_fill_10 rfl (lv_at hl 1 rfl) ?_
      refine lv_bipush (v := (8)) hx hb dX3_fill_11 (by decide) ?_
      refine lv_icmp_ge (tgt := 70) hx hb dX3_fill_13 (by decide) (fun c3 => ?_) (fun c3 => ?_)
      · have h := fl_ifp c3 h
        obtain rfl := fl_s1 h
        exact kk0 H locs ls hg (lv_sub hl [0] rfl)
      · have h := fl_ifn c3 h
        refine lv_aload_n hx hb dX3_fill_16 rfl (lv_at hl 0 rfl) ?_
        refine va_get (D := D) (ci := 3) (v := .ref (ad 5)) (C := RX3) (T := TX3) (N := 16) hx hb hts k_1 hown hK.1 hg.1 0 rfl rfl 5 (by decide) k_3 (fun _ h9 => h9) rfl dX3_fill_17 ?_
        refine lv_iload_n hx hb dX3_fill_20 rfl (lv_at hl 1 rfl) ?_
        obtain ⟨v4, i5, e6, h⟩ := fl_rd_b h
        refine g_ld (n := 8) (t0 := 4) hx hb hK hg (wm_a4 ad cz _) rfl i5 e6 dX3_fill_21 ?_
        obtain ⟨σ8, hB10, h⟩ := fl_bnd h
        have J9 : ∀ (H : Heap) (locs : List Loc) (ls : Array Slot), gS D (wm ad cz) A s.heap σ8 H locs → lv_has ls 2 [(0, .ref (ad 0)), (1, .int x1)] → W p l e rm_X3_fill s m args below meth c H locs 0 0 Q (F0 m 64 ls []) := by
          intro H locs ls hg hl
          refine lv_iinc (v := (x1 + 1)) (lv' := [(1, .int (x1 + 1)), (0, .ref (ad 0))]) hx hb dX3_fill_64 hl (k := 1) rfl rfl (by decide) rfl (fun ls hl => ?_)
          refine lv_goto (tgt := 10) hx hb dX3_fill_67 (by decide) ?_
          exact ih _ _ _ _ _ _ h hg (lv_sub hl [1, 0] rfl) kk0
        clear h
        have h := hB10
        refine lv_if_le (tgt := 41) hx hb dX3_fill_22 (by decide) (fun c7 => ?_) (fun c7 => ?_)
        · have h := fl_ifp c7 h
          refine lv_aload_n hx hb dX3_fill_41 rfl (lv_at hl 0 rfl) ?_
          refine va_get (D := D) (ci := 3) (v := .ref (ad 5)) (C := RX3) (T := TX3) (N := 16) hx hb hts k_1 hown hK.1 hg.1 0 rfl rfl 5 (by decide) k_3 (fun _ h9 => h9) rfl dX3_fill_42 ?_
          refine lv_iload_n hx hb dX3_fill_45 rfl (lv_at hl 1 rfl) ?_
          obtain ⟨v11, i12, e13, h⟩ := fl_rd_b h
          refine g_ld (n := 8) (t0 := 4) hx hb hK hg (wm_a4 ad cz _) rfl i12 e13 dX3_fill_46 ?_
          refine lv_if_ge (tgt := 64) hx hb dX3_fill_47 (by decide) (fun c14 => ?_) (fun c14 => ?_)
          · have h := fl_ifp c14 h
            obtain rfl := fl_s1 h
            exact J9 H locs ls hg (lv_sub hl [0, 1] rfl)
          · have h := fl_ifn c14 h
            refine lv_aload_n hx hb dX3_fill_50 rfl (lv_at hl 0 rfl) ?_
            refine lv_iload_n hx hb dX3_fill_51 rfl (lv_at hl 1 rfl) ?_
            refine lv_bipush (v := (9)) hx hb dX3_fill_52 (by decide) ?_
            refine lv_aload_n hx hb dX3_fill_54 rfl (lv_at hl 0 rfl) ?_
            refine va_get (D := D) (ci := 3) (v := .ref (ad 5)) (C := RX3) (T := TX3) (N := 16) hx hb hts k_1 hown hK.1 hg.1 0 rfl rfl 5 (by decide) k_3 (fun _ h9 => h9) rfl dX3_fill_55 ?_
            refine lv_iload_n hx hb dX3_fill_58 rfl (lv_at hl 1 rfl) ?_
            obtain ⟨v15, i16, e17, h⟩ := fl_rd_b h
            refine g_ld (n := 8) (t0 := 4) hx hb hK hg (wm_a4 ad cz _) rfl i16 e17 dX3_fill_59 ?_
            refine lv_ineg hx hb dX3_fill_60 ?_
            obtain ⟨σ19, e18, h⟩ := fl_bnd h
            refine g_callVv (As := [.int x1, .int (9), .int (-v15)]) (rest := []) ⟨hx, hb, hml, hown, hts⟩ (c_X3_lead l D ad cz (x1) ((9)) ((-v15)) (σ) e18) (cwV 3 hts gX3_fill_X3_lead rfl rfl rfl (by decide +kernel) ⟨Nat.le_of_ble_eq_true rfl, Nat.le_of_ble_eq_true rfl⟩) (va_recv hK.1 hg.1 (ci := 3) (q0 := 0) rfl rfl) hK hA hg rfl hl.1 rfl (Nat.le_of_ble_eq_true rfl) dX3_fill_61 ⟨Nat.le_of_ble_eq_true rfl, Nat.le_of_ble_eq_true rfl⟩ (fun H locs hg => ?_)
            obtain rfl := fl_s1 h
            exact J9 H locs ls hg (lv_sub hl [0, 1] rfl)
        · have h := fl_ifn c7 h
          refine lv_aload_n hx hb dX3_fill_25 rfl (lv_at hl 0 rfl) ?_
          refine lv_bipush (v := (8)) hx hb dX3_fill_26 (by decide) ?_
          refine lv_iload_n hx hb dX3_fill_28 rfl (lv_at hl 1 rfl) ?_
          refine lv_aload_n hx hb dX3_fill_29 rfl (lv_at hl 0 rfl) ?_
          refine va_get (D := D) (ci := 3) (v := .ref (ad 5)) (C := RX3) (T := TX3) (N := 16) hx hb hts k_1 hown hK.1 hg.1 0 rfl rfl 5 (by decide) k_3 (fun _ h9 => h9) rfl dX3_fill_30 ?_
          refine lv_iload_n hx hb dX3_fill_33 rfl (lv_at hl 1 rfl) ?_
          obtain ⟨v20, i21, e22, h⟩ := fl_rd_b h
          refine g_ld (n := 8) (t0 := 4) hx hb hK hg (wm_a4 ad cz _) rfl i21 e22 dX3_fill_34 ?_
          obtain ⟨σ24, e23, h⟩ := fl_bnd h
          refine g_callVv (As := [.int (8), .int x1, .int v20]) (rest := []) ⟨hx, hb, hml, hown, hts⟩ (c_X3_lead l D ad cz ((8)) (x1) (v20) (σ) e23) (cwV 3 hts gX3_fill_X3_lead rfl rfl rfl (by decide +kernel) ⟨Nat.le_of_ble_eq_true rfl, Nat.le_of_ble_eq_true rfl⟩) (va_recv hK.1 hg.1 (ci := 3) (q0 := 0) rfl rfl) hK hA hg rfl hl.1 rfl (Nat.le_of_ble_eq_true rfl) dX3_fill_35 ⟨Nat.le_of_ble_eq_true rfl, Nat.le_of_ble_eq_true rfl⟩ (fun H locs hg => ?_)
          refine lv_goto (tgt := 64) hx hb dX3_fill_38 (by decide) ?_
          obtain rfl := fl_s1 h
          exact J9 H locs ls hg (lv_sub hl [0, 1] rfl)
  have L72 : ∀ (n : Nat) (x1 : Int32) (σ : fl_St) (σo : fl_St) (H : Heap) (locs : List Loc) (ls : Array Slot), f_X3_fill_l72 n x1 σ = some (σo) → gS D (wm ad cz) A s.heap σ H locs → lv_has ls 2 [(0, .ref (ad 0)), (1, .int x1)] → (∀ (H : Heap) (locs : List Loc) (ls : Array Slot), gS D (wm ad cz) A s.heap σo H locs → lv_has ls 2 [(0, .ref (ad 0))] → W p l e rm_X3_fill s m args below meth c H locs 0 0 Q (F0 m 100 ls [])) → W p l e rm_X3_fill s m args below meth c H locs 0 0 Q (F0 m 72 ls []) := by
    intro n
    induction n with
    | zero =>
      intro x1 σ σo H locs ls h hg hl kk0
      rw [f_X3_fill_l72] at h
      cases h
    | succ n ih =>
      intro x1 σ σo H locs ls h hg hl kk0
      rw [f_X3_fill_l72] at h
      refine lv_iload_n hx hb dX3_fill_72 rfl (lv_at hl 1 rfl) ?_
      refine lv_aload_n hx hb dX3_fill_73 rfl (lv_at hl 0 rfl) ?_
      refine va_get (D := D) (ci := 3) (v := .int (σ 13 1)) (C := RX3) (T := TX3) (N := 16) hx hb hts k_1 hown hK.1 hg.1 0 rfl rfl 8 (by decide) k_2 (fun _ h9 => h9) rfl dX3_fill_74 ?_
      refine lv_icmp_ge (tgt := 100) hx hb dX3_fill_77 (by decide) (fun c27 => ?_) (fun c27 => ?_)
      · have h := fl_ifp c27 h
        obtain rfl := fl_s1 h
        exact kk0 H locs ls hg (lv_sub hl [0] rfl)
      · have h := fl_ifn c27 h
        refine lv_aload_n hx hb dX3_fill_80 rfl (lv_at hl 0 rfl) ?_
        refine va_get (D := D) (ci := 3) (v := .ref (ad 6)) (C := RX3) (T := TX3) (N := 16) hx hb hts k_1 hown hK.1 hg.1 0 rfl rfl 6 (by decide) k_4 (fun _ h9 => h9) rfl dX3_fill_81 ?_
        refine lv_iload_n hx hb dX3_fill_84 rfl (lv_at hl 1 rfl) ?_
        refine lv_iconst (v := (0)) hx hb dX3_fill_85 (by decide) ?_
        obtain ⟨σ28, i29, e30, h⟩ := fl_wr_b h
        refine g_st (n := 36) (t0 := 5) hx hb hK hg (wm_a5 ad cz _) (wm_s5 ad cz _) rfl i29 e30 dX3_fill_86 (fun H locs hg => ?_)
        refine lv_aload_n hx hb dX3_fill_87 rfl (lv_at hl 0 rfl) ?_
        refine va_get (D := D) (ci := 3) (v := .ref (ad 11)) (C := RX3) (T := TX3) (N := 16) hx hb hts k_1 hown hK.1 hg.1 0 rfl rfl 12 (by decide) k_5 (fun _ h9 => h9) rfl dX3_fill_88 ?_
        refine lv_iload_n hx hb dX3_fill_91 rfl (lv_at hl 1 rfl) ?_
        refine lv_iconst (v := (1)) hx hb dX3_fill_92 (by decide) ?_
        obtain ⟨σ31, i32, e33, h⟩ := fl_wr_b h
        refine g_stz (n := 36) (t0 := 10) hx hb hK hg (wm_a10 ad cz _) (wm_s10 ad cz _) rfl rfl i32 e33 dX3_fill_93 (fun H locs hg => ?_)
        refine lv_iinc (v := (x1 + 1)) (lv' := [(1, .int (x1 + 1)), (0, .ref (ad 0))]) hx hb dX3_fill_94 hl (k := 1) rfl rfl (by decide) rfl (fun ls hl => ?_)
        refine lv_goto (tgt := 72) hx hb dX3_fill_97 (by decide) ?_
        exact ih _ _ _ _ _ _ h hg (lv_sub hl [1, 0] rfl) kk0
  unfold f_X3_fill at h
  have W0 : ∀ (H : Heap) (locs : List Loc), gS D (wm ad cz) A s.heap σ H locs → W p l e rm_X3_fill s m args below meth c H locs 0 0 Q (F0 m 0 ls []) := by
    intro H locs hg
    refine lv_aload_n hx hb dX3_fill_0 rfl (lv_at hl 0 rfl) ?_
    refine lv_aload_n hx hb dX3_fill_1 rfl (lv_at hl 0 rfl) ?_
    refine va_get (D := D) (ci := 3) (v := .int (σ 13 0)) (C := RX3) (T := TX3) (N := 16) hx hb hts k_1 hown hK.1 hg.1 0 rfl rfl 0 (by decide) k_0 (fun _ h9 => h9) rfl dX3_fill_2 ?_
    obtain ⟨σ1, e2, h⟩ := fl_bnd h
    have e2 := fl_s1 e2
    refine g_put (σ' := σ1) (ci := 3) (C := RX3) (T := TX3) (N := 16) (z := (σ 13 0)) hx hb hts k_1 tyX3 tyX3_ok nmX3 hown hK hg 0 rfl rfl 8 (by decide) k_2 (fun _ h9 => h9) rfl (by decide +kernel) (Nat.le_of_ble_eq_true rfl) (by rw [← e2]; exact wm_c1 ad cz _ _) dX3_fill_5 (fun H locs hg => ?_)
    refine lv_iconst (v := (0)) hx hb dX3_fill_8 (by decide) ?_
    refine lv_istore_n (lv' := [(1, .int (0)), (0, .ref (ad 0))]) hx hb dX3_fill_9 rfl hl (by decide) rfl (fun ls hl => ?_)
    obtain ⟨σ25, hB26, h⟩ := fl_bnd h
    refine L10 fl_N _ _ _ H locs ls hB26 hg (lv_sub hl [1, 0] rfl) (fun H locs ls hg hl => ?_)
    refine lv_iconst (v := (0)) hx hb dX3_fill_70 (by decide) ?_
    refine lv_istore_n (lv' := [(1, .int (0)), (0, .ref (ad 0))]) hx hb dX3_fill_71 rfl hl (by decide) rfl (fun ls hl => ?_)
    obtain ⟨σ34, hB35, h⟩ := fl_bnd h
    refine L72 fl_N _ _ _ H locs ls hB35 hg (lv_sub hl [1, 0] rfl) (fun H locs ls hg hl => ?_)
    refine lv_aload_n hx hb dX3_fill_100 rfl (lv_at hl 0 rfl) ?_
    refine lv_aload_n hx hb dX3_fill_101 rfl (lv_at hl 0 rfl) ?_
    refine va_get (D := D) (ci := 3) (v := .ref (ad 6)) (C := RX3) (T := TX3) (N := 16) hx hb hts k_1 hown hK.1 hg.1 0 rfl rfl 6 (by decide) k_4 (fun _ h9 => h9) rfl dX3_fill_102 ?_
    refine lv_bipush (v := (8)) hx hb dX3_fill_105 (by decide) ?_
    refine lv_bipush (v := (9)) hx hb dX3_fill_107 (by decide) ?_
    refine lv_ldc hx hb hown k_6 dX3_fill_109 ?_
    obtain ⟨r37, σ38, e36, h⟩ := fl_b2_b h
    refine g_callVi (As := [.ref (ad 6), .int (8), .int (9), .int (1000000)]) (rest := []) ⟨hx, hb, hml, hown, hts⟩ (c_X3_pushAll l D ad cz (Or.inl rfl) ((8)) ((9)) ((1000000)) (σ34) e36) (cwV 4 hts gX3_fill_X3_pushAll rfl rfl rfl (by decide +kernel) ⟨Nat.le_of_ble_eq_true rfl, Nat.le_of_ble_eq_true rfl⟩) (va_recv hK.1 hg.1 (ci := 3) (q0 := 0) rfl rfl) hK hA hg rfl hl.1 rfl (Nat.le_of_ble_eq_true rfl) dX3_fill_111 ⟨Nat.le_of_ble_eq_true rfl, Nat.le_of_ble_eq_true rfl⟩ (fun H locs hg => ?_)
    exact hret _ _ _ _ _ _ h hg rfl dX3_fill_114
  exact W0 _ _ hg
def f_X3_amount (σ : fl_St) : Option (Int32 × fl_St) := fl_b2 (f_X3_fill  σ) fun r2 σ3 => some (r2, σ3)
def rm_X3_amount : Room := { frames := 4, cells := 0, slots := 0, locals := 100 }
set_option maxHeartbeats 4000000 in
set_option maxRecDepth 100000 in
theorem c_X3_amount (l : Launch) (D : va_G) (ad : Nat → Nat) (cz : Nat → ClassId) (σ : fl_St) {r : Int32} {σ' : fl_St} (h : f_X3_amount σ = some (r, σ')) : gMi l yX3_amount wsX3_amount rm_X3_amount D (wm ad cz) (wmT cz) [] [.ref (ad 0)] σ r σ' := by
  refine gMi_of (cc := cX3_amount) (maxL := 1) (by decide) rfl (Nat.le_of_ble_eq_true rfl) ?_
  intro p e s m args below meth c A Q ls hx hb hml hown hts hK hA hg hl hret
  have hown : s.vm.findClass RX3 = some m.cls := hown
  have hl : lv_has ls 1 [(0, .ref (ad 0))] := hl
  unfold f_X3_amount at h
  have W0 : ∀ (H : Heap) (locs : List Loc), gS D (wm ad cz) A s.heap σ H locs → W p l e rm_X3_amount s m args below meth c H locs 0 0 Q (F0 m 0 ls []) := by
    intro H locs hg
    refine lv_aload_n hx hb dX3_amount_0 rfl (lv_at hl 0 rfl) ?_
    obtain ⟨r2, σ3, e1, h⟩ := fl_b2_b h
    refine g_callVi (As := []) (rest := []) ⟨hx, hb, hml, hown, hts⟩ (c_X3_fill l D ad cz (σ) e1) (cwV 0 hts gX3_amount_X3_fill rfl rfl rfl (by decide +kernel) ⟨Nat.le_of_ble_eq_true rfl, Nat.le_of_ble_eq_true rfl⟩) (va_recv hK.1 hg.1 (ci := 3) (q0 := 0) rfl rfl) hK hA hg rfl hl.1 rfl (Nat.le_of_ble_eq_true rfl) dX3_amount_1 ⟨Nat.le_of_ble_eq_true rfl, Nat.le_of_ble_eq_true rfl⟩ (fun H locs hg => ?_)
    exact hret _ _ _ _ _ _ h hg rfl dX3_amount_4
  exact W0 _ _ hg
def f_X3_bottleneck_l20 (x1 : Int32) (x2 : Int32) (x3 : Int32) (σ : fl_St) : Nat → Int32 → Int32 → Option (Int32)
  | 0, _, _ => none
  | n + 1, x4, x5 => if (8) ≤ x5 then (some (x4)) else ((if ((x3 >>> (x5 &&& 31)) &&& (1)) = (1) then (some ((1))) else (some ((0)))).bind fun (t4 : Int32) => (if t4 = 0 then ((fl_rd σ 4 8 x5).bind fun v19 => if v19 ≤ 0 then (if t4 = 0 then (some ((0))) else ((fl_rd σ 4 8 x5).bind fun v24 => if 0 ≤ v24 then (some ((0))) else ((fl_rd σ 4 8 x5).bind fun v28 => some ((-v28))))) else ((fl_rd σ 4 8 x5).bind fun v31 => some (v31))) else (if t4 = 0 then (some ((0))) else ((fl_rd σ 4 8 x5).bind fun v12 => if 0 ≤ v12 then (some ((0))) else ((fl_rd σ 4 8 x5).bind fun v16 => some ((-v16)))))).bind fun (t8 : Int32) => f_X3_bottleneck_l20 x1 x2 x3 σ n (x4 + t8) (x5 + 1))
def f_X3_bottleneck_l110 (x1 : Int32) (x2 : Int32) (x3 : Int32) (σ : fl_St) : Nat → Int32 → Int32 → Option (Int32)
  | 0, _, _ => none
  | n + 1, x4, x5 => if (σ 13 0) ≤ x5 then (some (x4)) else ((fl_rd σ 0 36 x5).bind fun v37 => (if ((x3 >>> (v37 &&& 31)) &&& (1)) = (1) then ((fl_rd σ 1 36 x5).bind fun v51 => if ((x3 >>> (v51 &&& 31)) &&& (1)) = 0 then (some ((1))) else (some ((0)))) else (some ((0)))).bind fun (t41 : Int32) => (if t41 = 0 then (some ((0))) else ((fl_rd σ 2 36 x5).bind fun v48 => some (v48))).bind fun (t45 : Int32) => f_X3_bottleneck_l110 x1 x2 x3 σ n (x4 + t45) (x5 + 1))
def f_X3_bottleneck_l7 (σ : fl_St) : Nat → Int32 → Int32 → Int32 → Option (Int32)
  | 0, _, _, _ => none
  | n + 1, x1, x2, x3 => if (256) ≤ x3 then (some (x1)) else ((f_X3_bottleneck_l20 x1 x2 x3 σ fl_N (0) (0)).bind fun (w34 : Int32) => (f_X3_bottleneck_l110 x1 x2 x3 σ fl_N w34 (0)).bind fun (w55 : Int32) => fl_b2 (if (500000) ≤ w55 then (some (x1, x2)) else (if x1 = (-1000004) then (some (x3, w55)) else (if x2 ≤ w55 then (if w55 = x2 then (some ((x1 &&& x3), x2)) else (some (x1, x2))) else (some (x3, w55))))) fun (w58 : Int32) (w59 : Int32) => f_X3_bottleneck_l7 σ n w58 w59 (x3 + 1))
def f_X3_bottleneck (σ : fl_St) : Option (Int32) := (f_X3_bottleneck_l7 σ fl_N (-1000004) (0) (0)).bind fun (w65 : Int32) => some w65
def rm_X3_bottleneck : Room := { frames := 0, cells := 0, slots := 0, locals := 0 }
set_option maxHeartbeats 4000000 in
set_option maxRecDepth 100000 in
theorem c_X3_bottleneck (l : Launch) (D : va_G) (ad : Nat → Nat) (cz : Nat → ClassId) (σ : fl_St) {r : Int32} (h : f_X3_bottleneck σ = some r) : gMi l yX3_bottleneck wsX3_bottleneck rm_X3_bottleneck D (wm ad cz) (wmT cz) [] [.ref (ad 0)] σ r σ := by
  refine gMi_of (cc := cX3_bottleneck) (maxL := 7) (by decide) rfl (Nat.le_of_ble_eq_true rfl) ?_
  intro p e s m args below meth c A Q ls hx hb hml hown hts hK hA hg hl hret
  have hown : s.vm.findClass RX3 = some m.cls := hown
  have hl : lv_has ls 7 [(0, .ref (ad 0))] := hl
  have k_0 := hts (.constant RX3 84 (-1000004)) (by decide +kernel)
  have k_1 := hts (.fieldLink RX3 22 "FlowLedgerModel" "supplies" "[I") (by decide +kernel)
  have k_2 := (by decide +kernel : ∀ w ∈ wsX30, w ∈ wsX3_bottleneck)
  have k_3 := hts (.fieldLink RX3 55 "FlowLedgerModel" "arcs" "I") (by decide +kernel)
  have k_4 := hts (.fieldLink RX3 7 "FlowLedgerModel" "froms" "[I") (by decide +kernel)
  have k_5 := hts (.fieldLink RX3 16 "FlowLedgerModel" "capacities" "[I") (by decide +kernel)
  have k_6 := hts (.fieldLink RX3 13 "FlowLedgerModel" "tos" "[I") (by decide +kernel)
  have k_7 := hts (.constant RX3 85 (500000)) (by decide +kernel)
  have L20 : ∀ (n : Nat) (x1 : Int32) (x2 : Int32) (x3 : Int32) (σ : fl_St) (x4 : Int32) (x5 : Int32) (o4 : Int32) (H : Heap) (locs : List Loc) (ls : Array Slot), f_X3_bottleneck_l20 x1 x2 x3 σ n x4 x5 = some (o4) → gS D (wm ad cz) A s.heap σ H locs → lv_has ls 7 [(0, .ref (ad 0)), (1, .int x1), (2, .int x2), (3, .int x3), (4, .int x4), (5, .int x5)] → (∀ (H : Heap) (locs : List Loc) (ls : Array Slot), gS D (wm ad cz) A s.heap σ H locs → lv_has ls 7 [(0, .ref (ad 0)), (1, .int x1), (2, .int x2), (3, .int x3), (4, .int o4)] → W p l e rm_X3_bottleneck s m args below meth c H locs 0 0 Q (F0 m 107 ls [])) → W p l e rm_X3_bottleneck s m args below meth c H locs 0 0 Q (F0 m 20 ls []) := by
    intro n
    induction n with
    | zero =>
      intro x1 x2 x3 σ x4 x5 o4 H locs ls h hg hl kk0
      rw [f_X3_bottleneck_l20] at h
      cases h
    | succ n ih =>
      intro x1 x2 x3 σ x4 x5 o4 H locs ls h hg hl kk0
      rw [f_X3_bottleneck_l20] at h
      refine lv_iload hx hb dX3_bottleneck_20 (lv_at hl 5 rfl) ?_
      refine lv_bipush (v := (8)) hx hb dX3_bottleneck_22 (by decide) ?_
      refine lv_icmp_ge (tgt := 107) hx hb dX3_bottleneck_24 (by decide) (fun c2 => ?_) (fun c2 => ?_)
      · have h := fl_ifp c2 h
        obtain rfl := fl_s1 h
        exact kk0 H locs ls hg (lv_sub hl [0, 1, 2, 3, 4] rfl)
      · have h := fl_ifn c2 h
        refine lv_iload_n hx hb dX3_bottleneck_27 rfl (lv_at hl 3 rfl) ?_
        refine lv_iload hx hb dX3_bottleneck_28 (lv_at hl 5 rfl) ?_
        refine lv_ishr hx hb dX3_bottleneck_30 ?_
        refine lv_iconst (v := (1)) hx hb dX3_bottleneck_31 (by decide) ?_
        refine lv_iand hx hb dX3_bottleneck_32 ?_
        refine lv_iconst (v := (1)) hx hb dX3_bottleneck_33 (by decide) ?_
        obtain ⟨t4, hB6, h⟩ := fl_bnd h
        have J5 : ∀ (H : Heap) (locs : List Loc) (ls : Array Slot), gS D (wm ad cz) A s.heap σ H locs → lv_has ls 7 [(0, .ref (ad 0)), (1, .int x1), (2, .int x2), (3, .int x3), (4, .int x4), (5, .int x5)] → W p l e rm_X3_bottleneck s m args below meth c H locs 0 0 Q (F0 m 42 ls [.int t4]) := by
          intro H locs ls hg hl
          refine lv_istore (lv' := [(6, .int t4), (0, .ref (ad 0)), (1, .int x1), (2, .int x2), (3, .int x3), (4, .int x4), (5, .int x5)]) hx hb dX3_bottleneck_42 hl (by decide) rfl (fun ls hl => ?_)
          refine lv_iload hx hb dX3_bottleneck_44 (lv_at hl 5 rfl) ?_
          refine lv_iload hx hb dX3_bottleneck_46 (lv_at hl 0 rfl) ?_
          obtain ⟨t8, hB10, h⟩ := fl_bnd h
          have J9 : ∀ (H : Heap) (locs : List Loc) (ls : Array Slot), gS D (wm ad cz) A s.heap σ H locs → lv_has ls 7 [(0, .ref (ad 0)), (1, .int x1), (2, .int x2), (3, .int x3), (5, .int x5)] → W p l e rm_X3_bottleneck s m args below meth c H locs 0 0 Q (F0 m 98 ls [.int t8, .int x4]) := by
            intro H locs ls hg hl
            refine lv_iadd hx hb dX3_bottleneck_98 ?_
            refine lv_istore (lv' := [(4, .int (x4 + t8)), (0, .ref (ad 0)), (1, .int x1), (2, .int x2), (3, .int x3), (5, .int x5)]) hx hb dX3_bottleneck_99 hl (by decide) rfl (fun ls hl => ?_)
            refine lv_iinc (v := (x5 + 1)) (lv' := [(5, .int (x5 + 1)), (4, .int (x4 + t8)), (0, .ref (ad 0)), (1, .int x1), (2, .int x2), (3, .int x3)]) hx hb dX3_bottleneck_101 hl (k := 5) rfl rfl (by decide) rfl (fun ls hl => ?_)
            refine lv_goto (tgt := 20) hx hb dX3_bottleneck_104 (by decide) ?_
            exact ih _ _ _ _ _ _ _ _ _ _ h hg (lv_sub hl [2, 3, 4, 5, 1, 0] rfl) kk0
          clear h
          have h := hB10
          refine lv_if_ne (tgt := 71) hx hb dX3_bottleneck_48 (by decide) (fun c7 => ?_) (fun c7 => ?_)
          · have h := fl_ifn c7 h
            refine lv_iload hx hb dX3_bottleneck_71 (lv_at hl 0 rfl) ?_
            refine lv_if_eq (tgt := 97) hx hb dX3_bottleneck_73 (by decide) (fun c11 => ?_) (fun c11 => ?_)
            · have h := fl_ifp c11 h
              refine lv_iconst (v := (0)) hx hb dX3_bottleneck_97 (by decide) ?_
              obtain rfl := fl_s1 h
              exact J9 H locs ls hg (lv_sub hl [1, 2, 3, 4, 6] rfl)
            · have h := fl_ifn c11 h
              refine lv_aload_n hx hb dX3_bottleneck_76 rfl (lv_at hl 1 rfl) ?_
              refine va_get (D := D) (ci := 3) (v := .ref (ad 5)) (C := RX3) (T := TX3) (N := 16) hx hb hts k_2 hown hK.1 hg.1 0 rfl rfl 5 (by decide) k_1 (fun _ h9 => h9) rfl dX3_bottleneck_77 ?_
              refine lv_iload hx hb dX3_bottleneck_80 (lv_at hl 6 rfl) ?_
              obtain ⟨v12, i13, e14, h⟩ := fl_rd_b h
              refine g_ld (n := 8) (t0 := 4) hx hb hK hg (wm_a4 ad cz _) rfl i13 e14 dX3_bottleneck_82 ?_
              refine lv_if_ge (tgt := 97) hx hb dX3_bottleneck_83 (by decide) (fun c15 => ?_) (fun c15 => ?_)
              · have h := fl_ifp c15 h
                refine lv_iconst (v := (0)) hx hb dX3_bottleneck_97 (by decide) ?_
                obtain rfl := fl_s1 h
                exact J9 H locs ls hg (lv_sub hl [1, 2, 3, 4, 6] rfl)
              · have h := fl_ifn c15 h
                refine lv_aload_n hx hb dX3_bottleneck_86 rfl (lv_at hl 1 rfl) ?_
                refine va_get (D := D) (ci := 3) (v := .ref (ad 5)) (C := RX3) (T := TX3) (N := 16) hx hb hts k_2 hown hK.1 hg.1 0 rfl rfl 5 (by decide) k_1 (fun _ h9 => h9) rfl dX3_bottleneck_87 ?_
                refine lv_iload hx hb dX3_bottleneck_90 (lv_at hl 6 rfl) ?_
                obtain ⟨v16, i17, e18, h⟩ := fl_rd_b h
                refine g_ld (n := 8) (t0 := 4) hx hb hK hg (wm_a4 ad cz _) rfl i17 e18 dX3_bottleneck_92 ?_
                refine lv_ineg hx hb dX3_bottleneck_93 ?_
                refine lv_goto (tgt := 98) hx hb dX3_bottleneck_94 (by decide) ?_
                obtain rfl := fl_s1 h
                exact J9 H locs ls hg (lv_sub hl [1, 2, 3, 4, 6] rfl)
          · have h := fl_ifp c7 h
            refine lv_aload_n hx hb dX3_bottleneck_51 rfl (lv_at hl 1 rfl) ?_
            refine va_get (D := D) (ci := 3) (v := .ref (ad 5)) (C := RX3) (T := TX3) (N := 16) hx hb hts k_2 hown hK.1 hg.1 0 rfl rfl 5 (by decide) k_1 (fun _ h9 => h9) rfl dX3_bottleneck_52 ?_
            refine lv_iload hx hb dX3_bottleneck_55 (lv_at hl 6 rfl) ?_
            obtain ⟨v19, i20, e21, h⟩ := fl_rd_b h
            refine g_ld (n := 8) (t0 := 4) hx hb hK hg (wm_a4 ad cz _) rfl i20 e21 dX3_bottleneck_57 ?_
            refine lv_if_le (tgt := 71) hx hb dX3_bottleneck_58 (by decide) (fun c22 => ?_) (fun c22 => ?_)
            · have h := fl_ifp c22 h
              refine lv_iload hx hb dX3_bottleneck_71 (lv_at hl 0 rfl) ?_
              refine lv_if_eq (tgt := 97) hx hb dX3_bottleneck_73 (by decide) (fun c23 => ?_) (fun c23 => ?_)
              · have h := fl_ifp c23 h
                refine lv_iconst (v := (0)) hx hb dX3_bottleneck_97 (by decide) ?_
                obtain rfl := fl_s1 h
                exact J9 H locs ls hg (lv_sub hl [1, 2, 3, 4, 6] rfl)
              · have h := fl_ifn c23 h
                refine lv_aload_n hx hb dX3_bottleneck_76 rfl (lv_at hl 1 rfl) ?_
                refine va_get (D := D) (ci := 3) (v := .ref (ad 5)) (C := RX3) (T := TX3) (N := 16) hx hb hts k_2 hown hK.1 hg.1 0 rfl rfl 5 (by decide) k_1 (fun _ h9 => h9) rfl dX3_bottleneck_77 ?_
                refine lv_iload hx hb dX3_bottleneck_80 (lv_at hl 6 rfl) ?_
                obtain ⟨v24, i25, e26, h⟩ := fl_rd_b h
                refine g_ld (n := 8) (t0 := 4) hx hb hK hg (wm_a4 ad cz _) rfl i25 e26 dX3_bottleneck_82 ?_
                refine lv_if_ge (tgt := 97) hx hb dX3_bottleneck_83 (by decide) (fun c27 => ?_) (fun c27 => ?_)
                · have h := fl_ifp c27 h
                  refine lv_iconst (v := (0)) hx hb dX3_bottleneck_97 (by decide) ?_
                  obtain rfl := fl_s1 h
                  exact J9 H locs ls hg (lv_sub hl [1, 2, 3, 4, 6] rfl)
                · have h := fl_ifn c27 h
                  refine lv_aload_n hx hb dX3_bottleneck_86 rfl (lv_at hl 1 rfl) ?_
                  refine va_get (D := D) (ci := 3) (v := .ref (ad 5)) (C := RX3) (T := TX3) (N := 16) hx hb hts k_2 hown hK.1 hg.1 0 rfl rfl 5 (by decide) k_1 (fun _ h9 => h9) rfl dX3_bottleneck_87 ?_
                  refine lv_iload hx hb dX3_bottleneck_90 (lv_at hl 6 rfl) ?_
                  obtain ⟨v28, i29, e30, h⟩ := fl_rd_b h
                  refine g_ld (n := 8) (t0 := 4) hx hb hK hg (wm_a4 ad cz _) rfl i29 e30 dX3_bottleneck_92 ?_
                  refine lv_ineg hx hb dX3_bottleneck_93 ?_
                  refine lv_goto (tgt := 98) hx hb dX3_bottleneck_94 (by decide) ?_
                  obtain rfl := fl_s1 h
                  exact J9 H locs ls hg (lv_sub hl [1, 2, 3, 4, 6] rfl)
            · have h := fl_ifn c22 h
              refine lv_aload_n hx hb dX3_bottleneck_61 rfl (lv_at hl 1 rfl) ?_
              refine va_get (D := D) (ci := 3) (v := .ref (ad 5)) (C := RX3) (T := TX3) (N := 16) hx hb hts k_2 hown hK.1 hg.1 0 rfl rfl 5 (by decide) k_1 (fun _ h9 => h9) rfl dX3_bottleneck_62 ?_
              refine lv_iload hx hb dX3_bottleneck_65 (lv_at hl 6 rfl) ?_
              obtain ⟨v31, i32, e33, h⟩ := fl_rd_b h
              refine g_ld (n := 8) (t0 := 4) hx hb hK hg (wm_a4 ad cz _) rfl i32 e33 dX3_bottleneck_67 ?_
              refine lv_goto (tgt := 98) hx hb dX3_bottleneck_68 (by decide) ?_
              obtain rfl := fl_s1 h
              exact J9 H locs ls hg (lv_sub hl [1, 2, 3, 4, 6] rfl)
        clear h
        have h := hB6
        refine lv_icmp_ne (tgt := 41) hx hb dX3_bottleneck_34 (by decide) (fun c3 => ?_) (fun c3 => ?_)
        · have h := fl_ifn c3 h
          refine lv_iconst (v := (0)) hx hb dX3_bottleneck_41 (by decide) ?_
          obtain rfl := fl_s1 h
          exact J5 H locs ls hg (lv_sub hl [0, 1, 2, 3, 4, 5] rfl)
        · have h := fl_ifp c3 h
          refine lv_iconst (v := (1)) hx hb dX3_bottleneck_37 (by decide) ?_
          refine lv_goto (tgt := 42) hx hb dX3_bottleneck_38 (by decide) ?_
          obtain rfl := fl_s1 h
          exact J5 H locs ls hg (lv_sub hl [0, 1, 2, 3, 4, 5] rfl)
  have L110 : ∀ (n : Nat) (x1 : Int32) (x2 : Int32) (x3 : Int32) (σ : fl_St) (x4 : Int32) (x5 : Int32) (o4 : Int32) (H : Heap) (locs : List Loc) (ls : Array Slot), f_X3_bottleneck_l110 x1 x2 x3 σ n x4 x5 = some (o4) → gS D (wm ad cz) A s.heap σ H locs → lv_has ls 7 [(0, .ref (ad 0)), (1, .int x1), (2, .int x2), (3, .int x3), (4, .int x4), (5, .int x5)] → (∀ (H : Heap) (locs : List Loc) (ls : Array Slot), gS D (wm ad cz) A s.heap σ H locs → lv_has ls 7 [(0, .ref (ad 0)), (1, .int x1), (2, .int x2), (3, .int x3), (4, .int o4)] → W p l e rm_X3_bottleneck s m args below meth c H locs 0 0 Q (F0 m 182 ls [])) → W p l e rm_X3_bottleneck s m args below meth c H locs 0 0 Q (F0 m 110 ls []) := by
    intro n
    induction n with
    | zero =>
      intro x1 x2 x3 σ x4 x5 o4 H locs ls h hg hl kk0
      rw [f_X3_bottleneck_l110] at h
      cases h
    | succ n ih =>
      intro x1 x2 x3 σ x4 x5 o4 H locs ls h hg hl kk0
      rw [f_X3_bottleneck_l110] at h
      refine lv_iload hx hb dX3_bottleneck_110 (lv_at hl 5 rfl) ?_
      refine lv_aload_n hx hb dX3_bottleneck_112 rfl (lv_at hl 0 rfl) ?_
      refine va_get (D := D) (ci := 3) (v := .int (σ 13 0)) (C := RX3) (T := TX3) (N := 16) hx hb hts k_2 hown hK.1 hg.1 0 rfl rfl 0 (by decide) k_3 (fun _ h9 => h9) rfl dX3_bottleneck_113 ?_
      refine lv_icmp_ge (tgt := 182) hx hb dX3_bottleneck_116 (by decide) (fun c36 => ?_) (fun c36 => ?_)
      · have h := fl_ifp c36 h
        obtain rfl := fl_s1 h
        exact kk0 H locs ls hg (lv_sub hl [0, 1, 2, 3, 4] rfl)
      · have h := fl_ifn c36 h
        refine lv_iload_n hx hb dX3_bottleneck_119 rfl (lv_at hl 3 rfl) ?_
        refine lv_aload_n hx hb dX3_bottleneck_120 rfl (lv_at hl 0 rfl) ?_
        refine va_get (D := D) (ci := 3) (v := .ref (ad 1)) (C := RX3) (T := TX3) (N := 16) hx hb hts k_2 hown hK.1 hg.1 0 rfl rfl 1 (by decide) k_4 (fun _ h9 => h9) rfl dX3_bottleneck_121 ?_
        refine lv_iload hx hb dX3_bottleneck_124 (lv_at hl 5 rfl) ?_
        obtain ⟨v37, i38, e39, h⟩ := fl_rd_b h
        refine g_ld (n := 36) (t0 := 0) hx hb hK hg (wm_a0 ad cz _) rfl i38 e39 dX3_bottleneck_126 ?_
        refine lv_ishr hx hb dX3_bottleneck_127 ?_
        refine lv_iconst (v := (1)) hx hb dX3_bottleneck_128 (by decide) ?_
        refine lv_iand hx hb dX3_bottleneck_129 ?_
        refine lv_iconst (v := (1)) hx hb dX3_bottleneck_130 (by decide) ?_
        obtain ⟨t41, hB43, h⟩ := fl_bnd h
        have J42 : ∀ (H : Heap) (locs : List Loc) (ls : Array Slot), gS D (wm ad cz) A s.heap σ H locs → lv_has ls 7 [(0, .ref (ad 0)), (1, .int x1), (2, .int x2), (3, .int x3), (4, .int x4), (5, .int x5)] → W p l e rm_X3_bottleneck s m args below meth c H locs 0 0 Q (F0 m 153 ls [.int t41]) := by
          intro H locs ls hg hl
          refine lv_istore (lv' := [(6, .int t41), (0, .ref (ad 0)), (1, .int x1), (2, .int x2), (3, .int x3), (4, .int x4), (5, .int x5)]) hx hb dX3_bottleneck_153 hl (by decide) rfl (fun ls hl => ?_)
          refine lv_iload hx hb dX3_bottleneck_155 (lv_at hl 5 rfl) ?_
          refine lv_iload hx hb dX3_bottleneck_157 (lv_at hl 0 rfl) ?_
          obtain ⟨t45, hB47, h⟩ := fl_bnd h
          have J46 : ∀ (H : Heap) (locs : List Loc) (ls : Array Slot), gS D (wm ad cz) A s.heap σ H locs → lv_has ls 7 [(0, .ref (ad 0)), (1, .int x1), (2, .int x2), (3, .int x3), (5, .int x5)] → W p l e rm_X3_bottleneck s m args below meth c H locs 0 0 Q (F0 m 173 ls [.int t45, .int x4]) := by
            intro H locs ls hg hl
            refine lv_iadd hx hb dX3_bottleneck_173 ?_
            refine lv_istore (lv' := [(4, .int (x4 + t45)), (0, .ref (ad 0)), (1, .int x1), (2, .int x2), (3, .int x3), (5, .int x5)]) hx hb dX3_bottleneck_174 hl (by decide) rfl (fun ls hl => ?_)
            refine lv_iinc (v := (x5 + 1)) (lv' := [(5, .int (x5 + 1)), (4, .int (x4 + t45)), (0, .ref (ad 0)), (1, .int x1), (2, .int x2), (3, .int x3)]) hx hb dX3_bottleneck_176 hl (k := 5) rfl rfl (by decide) rfl (fun ls hl => ?_)
            refine lv_goto (tgt := 110) hx hb dX3_bottleneck_179 (by decide) ?_
            exact ih _ _ _ _ _ _ _ _ _ _ h hg (lv_sub hl [2, 3, 4, 5, 1, 0] rfl) kk0
          clear h
          have h := hB47
          refine lv_if_eq (tgt := 172) hx hb dX3_bottleneck_159 (by decide) (fun c44 => ?_) (fun c44 => ?_)
          · have h := fl_ifp c44 h
            refine lv_iconst (v := (0)) hx hb dX3_bottleneck_172 (by decide) ?_
            obtain rfl := fl_s1 h
            exact J46 H locs ls hg (lv_sub hl [1, 2, 3, 4, 6] rfl)
          · have h := fl_ifn c44 h
            refine lv_aload_n hx hb dX3_bottleneck_162 rfl (lv_at hl 1 rfl) ?_
            refine va_get (D := D) (ci := 3) (v := .ref (ad 3)) (C := RX3) (T := TX3) (N := 16) hx hb hts k_2 hown hK.1 hg.1 0 rfl rfl 3 (by decide) k_5 (fun _ h9 => h9) rfl dX3_bottleneck_163 ?_
            refine lv_iload hx hb dX3_bottleneck_166 (lv_at hl 6 rfl) ?_
            obtain ⟨v48, i49, e50, h⟩ := fl_rd_b h
            refine g_ld (n := 36) (t0 := 2) hx hb hK hg (wm_a2 ad cz _) rfl i49 e50 dX3_bottleneck_168 ?_
            refine lv_goto (tgt := 173) hx hb dX3_bottleneck_169 (by decide) ?_
            obtain rfl := fl_s1 h
            exact J46 H locs ls hg (lv_sub hl [1, 2, 3, 4, 6] rfl)
        clear h
        have h := hB43
        refine lv_icmp_ne (tgt := 152) hx hb dX3_bottleneck_131 (by decide) (fun c40 => ?_) (fun c40 => ?_)
        · have h := fl_ifn c40 h
          refine lv_iconst (v := (0)) hx hb dX3_bottleneck_152 (by decide) ?_
          obtain rfl := fl_s1 h
          exact J42 H locs ls hg (lv_sub hl [0, 1, 2, 3, 4, 5] rfl)
        · have h := fl_ifp c40 h
          refine lv_iload_n hx hb dX3_bottleneck_134 rfl (lv_at hl 3 rfl) ?_
          refine lv_aload_n hx hb dX3_bottleneck_135 rfl (lv_at hl 0 rfl) ?_
          refine va_get (D := D) (ci := 3) (v := .ref (ad 2)) (C := RX3) (T := TX3) (N := 16) hx hb hts k_2 hown hK.1 hg.1 0 rfl rfl 2 (by decide) k_6 (fun _ h9 => h9) rfl dX3_bottleneck_136 ?_
          refine lv_iload hx hb dX3_bottleneck_139 (lv_at hl 5 rfl) ?_
          obtain ⟨v51, i52, e53, h⟩ := fl_rd_b h
          refine g_ld (n := 36) (t0 := 1) hx hb hK hg (wm_a1 ad cz _) rfl i52 e53 dX3_bottleneck_141 ?_
          refine lv_ishr hx hb dX3_bottleneck_142 ?_
          refine lv_iconst (v := (1)) hx hb dX3_bottleneck_143 (by decide) ?_
          refine lv_iand hx hb dX3_bottleneck_144 ?_
          refine lv_if_ne (tgt := 152) hx hb dX3_bottleneck_145 (by decide) (fun c54 => ?_) (fun c54 => ?_)
          · have h := fl_ifn c54 h
            refine lv_iconst (v := (0)) hx hb dX3_bottleneck_152 (by decide) ?_
            obtain rfl := fl_s1 h
            exact J42 H locs ls hg (lv_sub hl [0, 1, 2, 3, 4, 5] rfl)
          · have h := fl_ifp c54 h
            refine lv_iconst (v := (1)) hx hb dX3_bottleneck_148 (by decide) ?_
            refine lv_goto (tgt := 153) hx hb dX3_bottleneck_149 (by decide) ?_
            obtain rfl := fl_s1 h
            exact J42 H locs ls hg (lv_sub hl [0, 1, 2, 3, 4, 5] rfl)
  have L7 : ∀ (n : Nat) (σ : fl_St) (x1 : Int32) (x2 : Int32) (x3 : Int32) (o1 : Int32) (H : Heap) (locs : List Loc) (ls : Array Slot), f_X3_bottleneck_l7 σ n x1 x2 x3 = some (o1) → gS D (wm ad cz) A s.heap σ H locs → lv_has ls 7 [(0, .ref (ad 0)), (1, .int x1), (2, .int x2), (3, .int x3)] → (∀ (H : Heap) (locs : List Loc) (ls : Array Slot), gS D (wm ad cz) A s.heap σ H locs → lv_has ls 7 [(1, .int o1)] → W p l e rm_X3_bottleneck s m args below meth c H locs 0 0 Q (F0 m 225 ls [])) → W p l e rm_X3_bottleneck s m args below meth c H locs 0 0 Q (F0 m 7 ls []) := by
    intro n
    induction n with
    | zero =>
      intro σ x1 x2 x3 o1 H locs ls h hg hl kk0
      rw [f_X3_bottleneck_l7] at h
      cases h
    | succ n ih =>
      intro σ x1 x2 x3 o1 H locs ls h hg hl kk0
      rw [f_X3_bottleneck_l7] at h
      refine lv_iload_n hx hb dX3_bottleneck_7 rfl (lv_at hl 3 rfl) ?_
      refine lv_sipush (v := (256)) hx hb dX3_bottleneck_8 (by decide) ?_
      refine lv_icmp_ge (tgt := 225) hx hb dX3_bottleneck_11 (by decide) (fun c1 => ?_) (fun c1 => ?_)
      · have h := fl_ifp c1 h
        obtain rfl := fl_s1 h
        exact kk0 H locs ls hg (lv_sub hl [1] rfl)
      · have h := fl_ifn c1 h
        refine lv_iconst (v := (0)) hx hb dX3_bottleneck_14 (by decide) ?_
        refine lv_istore (lv' := [(4, .int (0)), (0, .ref (ad 0)), (1, .int x1), (2, .int x2), (3, .int x3)]) hx hb dX3_bottleneck_15 hl (by decide) rfl (fun ls hl => ?_)
        refine lv_iconst (v := (0)) hx hb dX3_bottleneck_17 (by decide) ?_
        refine lv_istore (lv' := [(5, .int (0)), (4, .int (0)), (0, .ref (ad 0)), (1, .int x1), (2, .int x2), (3, .int x3)]) hx hb dX3_bottleneck_18 hl (by decide) rfl (fun ls hl => ?_)
        obtain ⟨w34, hB35, h⟩ := fl_bnd h
        refine L20 fl_N _ _ _ _ _ _ _ H locs ls hB35 hg (lv_sub hl [2, 3, 4, 5, 1, 0] rfl) (fun H locs ls hg hl => ?_)
        refine lv_iconst (v := (0)) hx hb dX3_bottleneck_107 (by decide) ?_
        refine lv_istore (lv' := [(5, .int (0)), (0, .ref (ad 0)), (1, .int x1), (2, .int x2), (3, .int x3), (4, .int w34)]) hx hb dX3_bottleneck_108 hl (by decide) rfl (fun ls hl => ?_)
        obtain ⟨w55, hB56, h⟩ := fl_bnd h
        refine L110 fl_N _ _ _ _ _ _ _ H locs ls hB56 hg (lv_sub hl [1, 2, 3, 4, 5, 0] rfl) (fun H locs ls hg hl => ?_)
        refine lv_iload hx hb dX3_bottleneck_182 (lv_at hl 4 rfl) ?_
        refine lv_ldc hx hb hown k_7 dX3_bottleneck_184 ?_
        obtain ⟨w58, w59, hB61, h⟩ := fl_b2_b h
        have J60 : ∀ (H : Heap) (locs : List Loc) (ls : Array Slot), gS D (wm ad cz) A s.heap σ H locs → lv_has ls 7 [(0, .ref (ad 0)), (1, .int w58), (2, .int w59), (3, .int x3)] → W p l e rm_X3_bottleneck s m args below meth c H locs 0 0 Q (F0 m 219 ls []) := by
          intro H locs ls hg hl
          refine lv_iinc (v := (x3 + 1)) (lv' := [(3, .int (x3 + 1)), (0, .ref (ad 0)), (1, .int w58), (2, .int w59)]) hx hb dX3_bottleneck_219 hl (k := 3) rfl rfl (by decide) rfl (fun ls hl => ?_)
          refine lv_goto (tgt := 7) hx hb dX3_bottleneck_222 (by decide) ?_
          exact ih _ _ _ _ _ _ _ _ h hg (lv_sub hl [1, 2, 3, 0] rfl) kk0
        clear h
        have h := hB61
        refine lv_icmp_ge (tgt := 219) hx hb dX3_bottleneck_186 (by decide) (fun c57 => ?_) (fun c57 => ?_)
        · have h := fl_ifp c57 h
          obtain ⟨rfl, rfl⟩ := fl_s2 h
          exact J60 H locs ls hg (lv_sub hl [0, 1, 2, 3] rfl)
        · have h := fl_ifn c57 h
          refine lv_iload_n hx hb dX3_bottleneck_189 rfl (lv_at hl 1 rfl) ?_
          refine lv_ldc hx hb hown k_0 dX3_bottleneck_190 ?_
          refine lv_icmp_eq (tgt := 201) hx hb dX3_bottleneck_192 (by decide) (fun c62 => ?_) (fun c62 => ?_)
          · have h := fl_ifp c62 h
            refine lv_iload_n hx hb dX3_bottleneck_201 rfl (lv_at hl 3 rfl) ?_
            refine lv_istore_n (lv' := [(1, .int x3), (0, .ref (ad 0)), (2, .int x2), (3, .int x3), (4, .int w55)]) hx hb dX3_bottleneck_202 rfl hl (by decide) rfl (fun ls hl => ?_)
            refine lv_iload hx hb dX3_bottleneck_203 (lv_at hl 4 rfl) ?_
            refine lv_istore_n (lv' := [(2, .int w55), (1, .int x3), (0, .ref (ad 0)), (3, .int x3), (4, .int w55)]) hx hb dX3_bottleneck_205 rfl hl (by decide) rfl (fun ls hl => ?_)
            refine lv_goto (tgt := 219) hx hb dX3_bottleneck_206 (by decide) ?_
            obtain ⟨rfl, rfl⟩ := fl_s2 h
            exact J60 H locs ls hg (lv_sub hl [2, 1, 0, 3] rfl)
          · have h := fl_ifn c62 h
            refine lv_iload hx hb dX3_bottleneck_195 (lv_at hl 4 rfl) ?_
            refine lv_iload_n hx hb dX3_bottleneck_197 rfl (lv_at hl 2 rfl) ?_
            refine lv_icmp_ge (tgt := 209) hx hb dX3_bottleneck_198 (by decide) (fun c63 => ?_) (fun c63 => ?_)
            · have h := fl_ifp c63 h
              refine lv_iload hx hb dX3_bottleneck_209 (lv_at hl 4 rfl) ?_
              refine lv_iload_n hx hb dX3_bottleneck_211 rfl (lv_at hl 2 rfl) ?_
              refine lv_icmp_ne (tgt := 219) hx hb dX3_bottleneck_212 (by decide) (fun c64 => ?_) (fun c64 => ?_)
              · have h := fl_ifn c64 h
                obtain ⟨rfl, rfl⟩ := fl_s2 h
                exact J60 H locs ls hg (lv_sub hl [0, 1, 2, 3] rfl)
              · have h := fl_ifp c64 h
                refine lv_iload_n hx hb dX3_bottleneck_215 rfl (lv_at hl 1 rfl) ?_
                refine lv_iload_n hx hb dX3_bottleneck_216 rfl (lv_at hl 3 rfl) ?_
                refine lv_iand hx hb dX3_bottleneck_217 ?_
                refine lv_istore_n (lv' := [(1, .int (x1 &&& x3)), (0, .ref (ad 0)), (2, .int x2), (3, .int x3), (4, .int w55)]) hx hb dX3_bottleneck_218 rfl hl (by decide) rfl (fun ls hl => ?_)
                obtain ⟨rfl, rfl⟩ := fl_s2 h
                exact J60 H locs ls hg (lv_sub hl [1, 0, 2, 3] rfl)
            · have h := fl_ifn c63 h
              refine lv_iload_n hx hb dX3_bottleneck_201 rfl (lv_at hl 3 rfl) ?_
              refine lv_istore_n (lv' := [(1, .int x3), (0, .ref (ad 0)), (2, .int x2), (3, .int x3), (4, .int w55)]) hx hb dX3_bottleneck_202 rfl hl (by decide) rfl (fun ls hl => ?_)
              refine lv_iload hx hb dX3_bottleneck_203 (lv_at hl 4 rfl) ?_
              refine lv_istore_n (lv' := [(2, .int w55), (1, .int x3), (0, .ref (ad 0)), (3, .int x3), (4, .int w55)]) hx hb dX3_bottleneck_205 rfl hl (by decide) rfl (fun ls hl => ?_)
              refine lv_goto (tgt := 219) hx hb dX3_bottleneck_206 (by decide) ?_
              obtain ⟨rfl, rfl⟩ := fl_s2 h
              exact J60 H locs ls hg (lv_sub hl [2, 1, 0, 3] rfl)
  unfold f_X3_bottleneck at h
  have W0 : ∀ (H : Heap) (locs : List Loc), gS D (wm ad cz) A s.heap σ H locs → W p l e rm_X3_bottleneck s m args below meth c H locs 0 0 Q (F0 m 0 ls []) := by
    intro H locs hg
    refine lv_ldc hx hb hown k_0 dX3_bottleneck_0 ?_
    refine lv_istore_n (lv' := [(1, .int (-1000004)), (0, .ref (ad 0))]) hx hb dX3_bottleneck_2 rfl hl (by decide) rfl (fun ls hl => ?_)
    refine lv_iconst (v := (0)) hx hb dX3_bottleneck_3 (by decide) ?_
    refine lv_istore_n (lv' := [(2, .int (0)), (1, .int (-1000004)), (0, .ref (ad 0))]) hx hb dX3_bottleneck_4 rfl hl (by decide) rfl (fun ls hl => ?_)
    refine lv_iconst (v := (0)) hx hb dX3_bottleneck_5 (by decide) ?_
    refine lv_istore_n (lv' := [(3, .int (0)), (2, .int (0)), (1, .int (-1000004)), (0, .ref (ad 0))]) hx hb dX3_bottleneck_6 rfl hl (by decide) rfl (fun ls hl => ?_)
    obtain ⟨w65, hB66, h⟩ := fl_bnd h
    refine L7 fl_N _ _ _ _ _ H locs ls hB66 hg (lv_sub hl [3, 2, 1, 0] rfl) (fun H locs ls hg hl => ?_)
    refine lv_iload_n hx hb dX3_bottleneck_225 rfl (lv_at hl 0 rfl) ?_
    exact hret _ _ _ _ _ _ (congrArg (Option.map (fun q => (q, σ))) h) hg rfl dX3_bottleneck_226
  exact W0 _ _ hg
