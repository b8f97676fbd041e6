def f_X1_levelUnboundedArcs_l2 : Nat → Int32 → fl_St → Option (fl_St)
  | 0, _, _ => none
  | n + 1, x1, σ => if (8) ≤ x1 then (some (σ)) else ((fl_wr σ 10 8 x1 (0)).bind fun σ2 => f_X1_levelUnboundedArcs_l2 n (x1 + 1) σ2)
def f_X1_levelUnboundedArcs_l39 (x2 : Int32) : Nat → Int32 → Int32 → fl_St → Option (Int32 × fl_St)
  | 0, _, _, _ => none
  | n + 1, x1, x3, σ => if (σ 12 0) ≤ x3 then (some (x1, σ)) else ((fl_rd σ 2 20 x3).bind fun v10 => fl_b2 (if v10 = (-1) then ((f_X1_isShortcut ((2) * x3) σ).bind fun r19 => if r19 = 0 then (some (x1, σ)) else ((fl_rd σ 6 40 ((2) * x3)).bind fun v21 => (fl_rd σ 5 40 ((2) * x3)).bind fun v24 => (fl_rd σ 10 8 v24).bind fun v27 => (fl_rd σ 7 40 ((2) * x3)).bind fun v30 => (fl_wr σ 10 8 v21 (v27 + v30)).bind fun σ33 => some ((1), σ33))) else (some (x1, σ))) fun (w14 : Int32) (σ15 : fl_St) => f_X1_levelUnboundedArcs_l39 x2 n w14 (x3 + 1) σ15)
def f_X1_levelUnboundedArcs_l25 : Nat → Int32 → Int32 → fl_St → Option (Int32 × fl_St)
  | 0, _, _, _ => none
  | n + 1, x1, x2, σ => if x1 = 0 then (some (x1, σ)) else (if (8) ≤ x2 then (some (x1, σ)) else (fl_b2 (f_X1_levelUnboundedArcs_l39 x2 fl_N (0) (0) σ) fun (w36 : Int32) (σ37 : fl_St) => f_X1_levelUnboundedArcs_l25 n w36 (x2 + 1) σ37))
def f_X1_levelUnboundedArcs (σ : fl_St) : Option (Int32 × fl_St) := (f_X1_levelUnboundedArcs_l2 fl_N (0) σ).bind fun (σ5 : fl_St) => fl_b2 (f_X1_levelUnboundedArcs_l25 fl_N (1) (0) σ5) fun (w39 : Int32) (σ40 : fl_St) => (if w39 = 0 then (some ((1))) else (some ((0)))).bind fun (t43 : Int32) => if ¬ (t43 = 0 ∨ t43 = 1) then none else some (t43, σ40)
def rm_X1_levelUnboundedArcs : Room := { frames := 1, cells := 0, slots := 0, locals := 21 }
set_option maxHeartbeats 4000000 in
set_option maxRecDepth 100000 in
theorem c_X1_levelUnboundedArcs (l : Launch) (D : va_G) (ad : Nat → Nat) (cz : Nat → ClassId) (σ : fl_St) {r : Int32} {σ' : fl_St} (h : f_X1_levelUnboundedArcs σ = some (r, σ')) : gMi l yX1_levelUnboundedArcs wsX1_levelUnboundedArcs rm_X1_levelUnboundedArcs D (wc ad cz) (wcT cz) wcN [.ref (ad 2)] σ r σ' := by
  refine gMi_of (cc := cX1_levelUnboundedArcs) (maxL := 4) (by decide) rfl (Nat.le_of_ble_eq_true rfl) ?_
  intro p e s m args below meth c A Q ls hx hb hml hown hts hK hA hg hl hret
  have hown : s.vm.findClass RX1 = some m.cls := hown
  have hl : lv_has ls 4 [(0, .ref (ad 2))] := hl
  have k_0 := hts (.fieldLink RX1 34 "FlowLedger$Router" "distance" "[I") (by decide +kernel)
  have k_1 := (by decide +kernel : ∀ w ∈ wsX10, w ∈ wsX1_levelUnboundedArcs)
  have k_2 := hts (.fieldLink RX1 12 "FlowLedger$Router" "network" "LFlowLedger$Network;") (by decide +kernel)
  have k_3 := hts (.fieldLink RX1 40 "FlowLedger$Network" "count" "I") (by decide +kernel)
  have k_4 := (by decide +kernel : ∀ w ∈ wsX00, w ∈ wsX1_levelUnboundedArcs)
  have k_5 := hts (.fieldLink RX1 82 "FlowLedger$Network" "capacity" "[I") (by decide +kernel)
  have k_6 := hts (.fieldLink RX1 22 "FlowLedger$Router" "head" "[I") (by decide +kernel)
  have k_7 := hts (.fieldLink RX1 18 "FlowLedger$Router" "tail" "[I") (by decide +kernel)
  have k_8 := hts (.fieldLink RX1 25 "FlowLedger$Router" "weight" "[I") (by decide +kernel)
  have L2 : ∀ (n : Nat) (x1 : Int32) (σ : fl_St) (σo : fl_St) (H : Heap) (locs : List Loc) (ls : Array Slot), f_X1_levelUnboundedArcs_l2 n x1 σ = some (σo) → gS D (wc ad cz) A s.heap σ H locs → lv_has ls 4 [(0, .ref (ad 2)), (1, .int x1)] → (∀ (H : Heap) (locs : List Loc) (ls : Array Slot), gS D (wc ad cz) A s.heap σo H locs → lv_has ls 4 [(0, .ref (ad 2))] → W p l e rm_X1_levelUnboundedArcs s m args below meth c H locs 0 0 Q (F0 m 21 ls [])) → W p l e rm_X1_levelUnboundedArcs s m args below meth c H locs 0 0 Q (F0 m 2 ls []) := by
    intro n
    induction n with
    | zero =>
      intro x1 σ σo H locs ls h hg hl kk0
      rw [f_X1_levelUnboundedArcs_l2] at h
      cases h
    | succ n ih =>
      intro x1 σ σo H locs ls h hg hl kk0
      rw [f_X1_levelUnboundedArcs_l2] at h
      refine lv_iload_n hx hb dX1_levelUnboundedArcs_2 rfl (lv_at hl 1 rfl) ?_
      refine lv_bipush (v := (8)) hx hb dX1_levelUnboundedArcs_3 (by decide) ?_
      refine lv_icmp_ge (tgt := 21) hx hb dX1_levelUnboundedArcs_5 (by decide) (fun c1 => ?_) (fun c1 => ?_)
      · have h := fl_ifp c1 h
        obtain rfl := fl_s1 h
        exact kk0 H locs ls hg (lv_sub hl [0] rfl)
      · have h := fl_ifn c1 h
        refine lv_aload_n hx hb dX1_levelUnboundedArcs_8 rfl (lv_at hl 0 rfl) ?_
        refine va_get (D := D) (ci := 1) (v := .ref (ad 13)) (C := RX1) (T := TX1) (N := 8) hx hb hts k_1 hown hK.1 hg.1 2 rfl rfl 6 (by decide) k_0 (fun _ h9 => h9) rfl dX1_levelUnboundedArcs_9 ?_
        refine lv_iload_n hx hb dX1_levelUnboundedArcs_12 rfl (lv_at hl 1 rfl) ?_
        refine lv_iconst (v := (0)) hx hb dX1_levelUnboundedArcs_13 (by decide) ?_
        obtain ⟨σ2, i3, e4, h⟩ := fl_wr_b h
        refine g_st (n := 8) (t0 := 10) hx hb hK hg (wc_a10 ad cz _) (wc_s10 ad cz _) rfl i3 e4 dX1_levelUnboundedArcs_14 (fun H locs hg => ?_)
        refine lv_iinc (v := (x1 + 1)) (lv' := [(1, .int (x1 + 1)), (0, .ref (ad 2))]) hx hb dX1_levelUnboundedArcs_15 hl (k := 1) rfl rfl (by decide) rfl (fun ls hl => ?_)
        refine lv_goto (tgt := 2) hx hb dX1_levelUnboundedArcs_18 (by decide) ?_
        exact ih _ _ _ _ _ _ h hg (lv_sub hl [1, 0] rfl) kk0
  have L39 : ∀ (n : Nat) (x2 : Int32) (x1 : Int32) (x3 : Int32) (σ : fl_St) (o1 : Int32) (σo : fl_St) (H : Heap) (locs : List Loc) (ls : Array Slot), f_X1_levelUnboundedArcs_l39 x2 n x1 x3 σ = some (o1, σo) → gS D (wc ad cz) A s.heap σ H locs → lv_has ls 4 [(0, .ref (ad 2)), (1, .int x1), (2, .int x2), (3, .int x3)] → (∀ (H : Heap) (locs : List Loc) (ls : Array Slot), gS D (wc ad cz) A s.heap σo H locs → lv_has ls 4 [(0, .ref (ad 2)), (1, .int o1), (2, .int x2)] → W p l e rm_X1_levelUnboundedArcs s m args below meth c H locs 0 0 Q (F0 m 116 ls [])) → W p l e rm_X1_levelUnboundedArcs s m args below meth c H locs 0 0 Q (F0 m 39 ls []) := by
    intro n
    induction n with
    | zero =>
      intro x2 x1 x3 σ o1 σo H locs ls h hg hl kk0
      rw [f_X1_levelUnboundedArcs_l39] at h
      cases h
    | succ n ih =>
      intro x2 x1 x3 σ o1 σo H locs ls h hg hl kk0
      rw [f_X1_levelUnboundedArcs_l39] at h
      refine lv_iload_n hx hb dX1_levelUnboundedArcs_39 rfl (lv_at hl 3 rfl) ?_
      refine lv_aload_n hx hb dX1_levelUnboundedArcs_40 rfl (lv_at hl 0 rfl) ?_
      refine va_get (D := D) (ci := 1) (v := .ref (ad 1)) (C := RX1) (T := TX1) (N := 8) hx hb hts k_1 hown hK.1 hg.1 2 rfl rfl 0 (by decide) k_2 (fun _ h9 => h9) rfl dX1_levelUnboundedArcs_41 ?_
      refine va_get (D := D) (ci := 0) (v := .int (σ 12 0)) (C := RX0) (T := TX0) (N := 6) hx hb hts k_4 hown hK.1 hg.1 1 rfl rfl 5 (by decide) k_3 (fun _ h9 => h9) rfl dX1_levelUnboundedArcs_44 ?_
      refine lv_icmp_ge (tgt := 116) hx hb dX1_levelUnboundedArcs_47 (by decide) (fun c9 => ?_) (fun c9 => ?_)
      · have h := fl_ifp c9 h
        obtain ⟨rfl, rfl⟩ := fl_s2 h
        exact kk0 H locs ls hg (lv_sub hl [0, 1, 2] rfl)
      · have h := fl_ifn c9 h
        refine lv_aload_n hx hb dX1_levelUnboundedArcs_50 rfl (lv_at hl 0 rfl) ?_
        refine va_get (D := D) (ci := 1) (v := .ref (ad 1)) (C := RX1) (T := TX1) (N := 8) hx hb hts k_1 hown hK.1 hg.1 2 rfl rfl 0 (by decide) k_2 (fun _ h9 => h9) rfl dX1_levelUnboundedArcs_51 ?_
        refine va_get (D := D) (ci := 0) (v := .ref (ad 5)) (C := RX0) (T := TX0) (N := 6) hx hb hts k_4 hown hK.1 hg.1 1 rfl rfl 2 (by decide) k_5 (fun _ h9 => h9) rfl dX1_levelUnboundedArcs_54 ?_
        refine lv_iload_n hx hb dX1_levelUnboundedArcs_57 rfl (lv_at hl 3 rfl) ?_
        obtain ⟨v10, i11, e12, h⟩ := fl_rd_b h
        refine g_ld (n := 20) (t0 := 2) hx hb hK hg (wc_a2 ad cz _) rfl i11 e12 dX1_levelUnboundedArcs_58 ?_
        refine lv_iconst (v := (-1)) hx hb dX1_levelUnboundedArcs_59 (by decide) ?_
        obtain ⟨w14, σ15, hB17, h⟩ := fl_b2_b h
        have J16 : ∀ (H : Heap) (locs : List Loc) (ls : Array Slot), gS D (wc ad cz) A s.heap σ15 H locs → lv_has ls 4 [(0, .ref (ad 2)), (1, .int w14), (2, .int x2), (3, .int x3)] → W p l e rm_X1_levelUnboundedArcs s m args below meth c H locs 0 0 Q (F0 m 110 ls []) := by
          intro H locs ls hg hl
          refine lv_iinc (v := (x3 + 1)) (lv' := [(3, .int (x3 + 1)), (0, .ref (ad 2)), (1, .int w14), (2, .int x2)]) hx hb dX1_levelUnboundedArcs_110 hl (k := 3) rfl rfl (by decide) rfl (fun ls hl => ?_)
          refine lv_goto (tgt := 39) hx hb dX1_levelUnboundedArcs_113 (by decide) ?_
          exact ih _ _ _ _ _ _ _ _ _ h hg (lv_sub hl [1, 2, 3, 0] rfl) kk0
        clear h
        have h := hB17
        refine lv_icmp_ne (tgt := 110) hx hb dX1_levelUnboundedArcs_60 (by decide) (fun c13 => ?_) (fun c13 => ?_)
        · have h := fl_ifn c13 h
          obtain ⟨rfl, rfl⟩ := fl_s2 h
          exact J16 H locs ls hg (lv_sub hl [0, 1, 2, 3] rfl)
        · have h := fl_ifp c13 h
          refine lv_aload_n hx hb dX1_levelUnboundedArcs_63 rfl (lv_at hl 0 rfl) ?_
          refine lv_iconst (v := (2)) hx hb dX1_levelUnboundedArcs_64 (by decide) ?_
          refine lv_iload_n hx hb dX1_levelUnboundedArcs_65 rfl (lv_at hl 3 rfl) ?_
          refine lv_imul hx hb dX1_levelUnboundedArcs_66 ?_
          obtain ⟨r19, e18, h⟩ := fl_bnd h
          refine g_callVi (As := [.int ((2) * x3)]) (rest := []) ⟨hx, hb, hml, hown, hts⟩ (c_X1_isShortcut l D ad cz (((2) * x3)) (σ) e18) (cwV 1 hts gX1_levelUnboundedArcs_X1_isShortcut rfl rfl rfl (by decide +kernel) ⟨Nat.le_of_ble_eq_true rfl, Nat.le_of_ble_eq_true rfl⟩) (va_recv hK.1 hg.1 (ci := 1) (q0 := 2) rfl rfl) hK hA hg rfl hl.1 rfl (Nat.le_of_ble_eq_true rfl) dX1_levelUnboundedArcs_67 ⟨Nat.le_of_ble_eq_true rfl, Nat.le_of_ble_eq_true rfl⟩ (fun H locs hg => ?_)
          refine lv_if_eq (tgt := 110) hx hb dX1_levelUnboundedArcs_70 (by decide) (fun c20 => ?_) (fun c20 => ?_)
          · have h := fl_ifp c20 h
            obtain ⟨rfl, rfl⟩ := fl_s2 h
            exact J16 H locs ls hg (lv_sub hl [0, 1, 2, 3] rfl)
          · have h := fl_ifn c20 h
            refine lv_aload_n hx hb dX1_levelUnboundedArcs_73 rfl (lv_at hl 0 rfl) ?_
            refine va_get (D := D) (ci := 1) (v := .ref (ad 13)) (C := RX1) (T := TX1) (N := 8) hx hb hts k_1 hown hK.1 hg.1 2 rfl rfl 6 (by decide) k_0 (fun _ h9 => h9) rfl dX1_levelUnboundedArcs_74 ?_
            refine lv_aload_n hx hb dX1_levelUnboundedArcs_77 rfl (lv_at hl 0 rfl) ?_
            refine va_get (D := D) (ci := 1) (v := .ref (ad 9)) (C := RX1) (T := TX1) (N := 8) hx hb hts k_1 hown hK.1 hg.1 2 rfl rfl 2 (by decide) k_6 (fun _ h9 => h9) rfl dX1_levelUnboundedArcs_78 ?_
            refine lv_iconst (v := (2)) hx hb dX1_levelUnboundedArcs_81 (by decide) ?_
            refine lv_iload_n hx hb dX1_levelUnboundedArcs_82 rfl (lv_at hl 3 rfl) ?_
            refine lv_imul hx hb dX1_levelUnboundedArcs_83 ?_
            obtain ⟨v21, i22, e23, h⟩ := fl_rd_b h
            refine g_ld (n := 40) (t0 := 6) hx hb hK hg (wc_a6 ad cz _) rfl i22 e23 dX1_levelUnboundedArcs_84 ?_
            refine lv_aload_n hx hb dX1_levelUnboundedArcs_85 rfl (lv_at hl 0 rfl) ?_
            refine va_get (D := D) (ci := 1) (v := .ref (ad 13)) (C := RX1) (T := TX1) (N := 8) hx hb hts k_1 hown hK.1 hg.1 2 rfl rfl 6 (by decide) k_0 (fun _ h9 => h9) rfl dX1_levelUnboundedArcs_86 ?_
            refine lv_aload_n hx hb dX1_levelUnboundedArcs_89 rfl (lv_at hl 0 rfl) ?_
            refine va_get (D := D) (ci := 1) (v := .ref (ad 8)) (C := RX1) (T := TX1) (N := 8) hx hb hts k_1 hown hK.1 hg.1 2 rfl rfl 1 (by decide) k_7 (fun _ h9 => h9) rfl dX1_levelUnboundedArcs_90 ?_
            refine lv_iconst (v := (2)) hx hb dX1_levelUnboundedArcs_93 (by decide) ?_
            refine lv_iload_n hx hb dX1_levelUnboundedArcs_94 rfl (lv_at hl 3 rfl) ?_
            refine lv_imul hx hb dX1_levelUnboundedArcs_95 ?_
            obtain ⟨v24, i25, e26, h⟩ := fl_rd_b h
            refine g_ld (n := 40) (t0 := 5) hx hb hK hg (wc_a5 ad cz _) rfl i25 e26 dX1_levelUnboundedArcs_96 ?_
            obtain ⟨v27, i28, e29, h⟩ := fl_rd_b h
            refine g_ld (n := 8) (t0 := 10) hx hb hK hg (wc_a10 ad cz _) rfl i28 e29 dX1_levelUnboundedArcs_97 ?_
            refine lv_aload_n hx hb dX1_levelUnboundedArcs_98 rfl (lv_at hl 0 rfl) ?_
            refine va_get (D := D) (ci := 1) (v := .ref (ad 10)) (C := RX1) (T := TX1) (N := 8) hx hb hts k_1 hown hK.1 hg.1 2 rfl rfl 3 (by decide) k_8 (fun _ h9 => h9) rfl dX1_levelUnboundedArcs_99 ?_
            refine lv_iconst (v := (2)) hx hb dX1_levelUnboundedArcs_102 (by decide) ?_
            refine lv_iload_n hx hb dX1_levelUnboundedArcs_103 rfl (lv_at hl 3 rfl) ?_
            refine lv_imul hx hb dX1_levelUnboundedArcs_104 ?_
            obtain ⟨v30, i31, e32, h⟩ := fl_rd_b h
            refine g_ld (n := 40) (t0 := 7) hx hb hK hg (wc_a7 ad cz _) rfl i31 e32 dX1_levelUnboundedArcs_105 ?_
            refine lv_iadd hx hb dX1_levelUnboundedArcs_106 ?_
            obtain ⟨σ33, i34, e35, h⟩ := fl_wr_b h
            refine g_st (n := 8) (t0 := 10) hx hb hK hg (wc_a10 ad cz _) (wc_s10 ad cz _) rfl i34 e35 dX1_levelUnboundedArcs_107 (fun H locs hg => ?_)
            refine lv_iconst (v := (1)) hx hb dX1_levelUnboundedArcs_108 (by decide) ?_
            refine lv_istore_n (lv' := [(1, .int (1)), (0, .ref (ad 2)), (2, .int x2), (3, .int x3)]) hx hb dX1_levelUnboundedArcs_109 rfl hl (by decide) rfl (fun ls hl => ?_)
            obtain ⟨rfl, rfl⟩ := fl_s2 h
            exact J16 H locs ls hg (lv_sub hl [1, 0, 2, 3] rfl)
  have L25 : ∀ (n : Nat) (x1 : Int32) (x2 : Int32) (σ : fl_St) (o1 : Int32) (σo : fl_St) (H : Heap) (locs : List Loc) (ls : Array Slot), f_X1_levelUnboundedArcs_l25 n x1 x2 σ = some (o1, σo) → gS D (wc ad cz) A s.heap σ H locs → lv_has ls 4 [(0, .ref (ad 2)), (1, .int x1), (2, .int x2)] → (∀ (H : Heap) (locs : List Loc) (ls : Array Slot), gS D (wc ad cz) A s.heap σo H locs → lv_has ls 4 [(1, .int o1)] → W p l e rm_X1_levelUnboundedArcs s m args below meth c H locs 0 0 Q (F0 m 122 ls [])) → W p l e rm_X1_levelUnboundedArcs s m args below meth c H locs 0 0 Q (F0 m 25 ls []) := by
    intro n
    induction n with
    | zero =>
      intro x1 x2 σ o1 σo H locs ls h hg hl kk0
      rw [f_X1_levelUnboundedArcs_l25] at h
      cases h
    | succ n ih =>
      intro x1 x2 σ o1 σo H locs ls h hg hl kk0
      rw [f_X1_levelUnboundedArcs_l25] at h
      refine lv_iload_n hx hb dX1_levelUnboundedArcs_25 rfl (lv_at hl 1 rfl) ?_
      refine lv_if_eq (tgt := 122) hx hb dX1_levelUnboundedArcs_26 (by decide) (fun c7 => ?_) (fun c7 => ?_)
      · have h := fl_ifp c7 h
        obtain ⟨rfl, rfl⟩ := fl_s2 h
        exact kk0 H locs ls hg (lv_sub hl [1] rfl)
      · have h := fl_ifn c7 h
        refine lv_iload_n hx hb dX1_levelUnboundedArcs_29 rfl (lv_at hl 2 rfl) ?_
        refine lv_bipush (v := (8)) hx hb dX1_levelUnboundedArcs_30 (by decide) ?_
        refine lv_icmp_ge (tgt := 122) hx hb dX1_levelUnboundedArcs_32 (by decide) (fun c8 => ?_) (fun c8 => ?_)
        · have h := fl_ifp c8 h
          obtain ⟨rfl, rfl⟩ := fl_s2 h
          exact kk0 H locs ls hg (lv_sub hl [1] rfl)
        · have h := fl_ifn c8 h
          refine lv_iconst (v := (0)) hx hb dX1_levelUnboundedArcs_35 (by decide) ?_
          refine lv_istore_n (lv' := [(1, .int (0)), (0, .ref (ad 2)), (2, .int x2)]) hx hb dX1_levelUnboundedArcs_36 rfl hl (by decide) rfl (fun ls hl => ?_)
          refine lv_iconst (v := (0)) hx hb dX1_levelUnboundedArcs_37 (by decide) ?_
          refine lv_istore_n (lv' := [(3, .int (0)), (1, .int (0)), (0, .ref (ad 2)), (2, .int x2)]) hx hb dX1_levelUnboundedArcs_38 rfl hl (by decide) rfl (fun ls hl => ?_)
          obtain ⟨w36, σ37, hB38, h⟩ := fl_b2_b h
          refine L39 fl_N _ _ _ _ _ _ H locs ls hB38 hg (lv_sub hl [2, 1, 3, 0] rfl) (fun H locs ls hg hl => ?_)
          refine lv_iinc (v := (x2 + 1)) (lv' := [(2, .int (x2 + 1)), (0, .ref (ad 2)), (1, .int w36)]) hx hb dX1_levelUnboundedArcs_116 hl (k := 2) rfl rfl (by decide) rfl (fun ls hl => ?_)
          refine lv_goto (tgt := 25) hx hb dX1_levelUnboundedArcs_119 (by decide) ?_
          exact ih _ _ _ _ _ _ _ _ h hg (lv_sub hl [1, 2, 0] rfl) kk0
  unfold f_X1_levelUnboundedArcs at h
  have W0 : ∀ (H : Heap) (locs : List Loc), gS D (wc ad cz) A s.heap σ H locs → W p l e rm_X1_levelUnboundedArcs s m args below meth c H locs 0 0 Q (F0 m 0 ls []) := by
    intro H locs hg
    refine lv_iconst (v := (0)) hx hb dX1_levelUnboundedArcs_0 (by decide) ?_
    refine lv_istore_n (lv' := [(1, .int (0)), (0, .ref (ad 2))]) hx hb dX1_levelUnboundedArcs_1 rfl hl (by decide) rfl (fun ls hl => ?_)
    obtain ⟨σ5, hB6, h⟩ := fl_bnd h
    refine L2 fl_N _ _ _ H locs ls hB6 hg (lv_sub hl [1, 0] rfl) (fun H locs ls hg hl => ?_)
    refine lv_iconst (v := (1)) hx hb dX1_levelUnboundedArcs_21 (by decide) ?_
    refine lv_istore_n (lv' := [(1, .int (1)), (0, .ref (ad 2))]) hx hb dX1_levelUnboundedArcs_22 rfl hl (by decide) rfl (fun ls hl => ?_)
    refine lv_iconst (v := (0)) hx hb dX1_levelUnboundedArcs_23 (by decide) ?_
    refine lv_istore_n (lv' := [(2, .int (0)), (1, .int (1)), (0, .ref (ad 2))]) hx hb dX1_levelUnboundedArcs_24 rfl hl (by decide) rfl (fun ls hl => ?_)
    obtain ⟨w39, σ40, hB41, h⟩ := fl_b2_b h
    refine L25 fl_N _ _ _ _ _ H locs ls hB41 hg (lv_sub hl [2, 1, 0] rfl) (fun H locs ls hg hl => ?_)
    refine lv_iload_n hx hb dX1_levelUnboundedArcs_122 rfl (lv_at hl 0 rfl) ?_
    obtain ⟨t43, hB45, h⟩ := fl_bnd h
    have J44 : ∀ (H : Heap) (locs : List Loc) (ls : Array Slot), gS D (wc ad cz) A s.heap σ40 H locs → lv_has ls 4 [] → W p l e rm_X1_levelUnboundedArcs s m args below meth c H locs 0 0 Q (F0 m 131 ls [.int t43]) := by
      intro H locs ls hg hl
      obtain ⟨z46, h⟩ := fl_bool h
      exact hret _ _ _ _ _ _ h hg (fl_nar2 z46) dX1_levelUnboundedArcs_131
    clear h
    have h := hB45
    refine lv_if_ne (tgt := 130) hx hb dX1_levelUnboundedArcs_123 (by decide) (fun c42 => ?_) (fun c42 => ?_)
    · have h := fl_ifn c42 h
      refine lv_iconst (v := (0)) hx hb dX1_levelUnboundedArcs_130 (by decide) ?_
      obtain rfl := fl_s1 h
      exact J44 H locs ls hg (lv_sub hl [] rfl)
    · have h := fl_ifp c42 h
      refine lv_iconst (v := (1)) hx hb dX1_levelUnboundedArcs_126 (by decide) ?_
      refine lv_goto (tgt := 131) hx hb dX1_levelUnboundedArcs_127 (by decide) ?_
      obtain rfl := fl_s1 h
      exact J44 H locs ls hg (lv_sub hl [] rfl)
  exact W0 _ _ hg
def f_X1_fillLightArcs_l2 : Nat → Int32 → fl_St → Option (fl_St)
  | 0, _, _ => none
  | n + 1, x1, σ => if (σ 12 0) ≤ x1 then (some (σ)) else ((fl_rd σ 2 20 x1).bind fun v2 => (if v2 = (-1) then (some ((0))) else (some ((1)))).bind fun (t6 : Int32) => (if t6 = 0 then (some ((1680))) else ((fl_rd σ 2 20 x1).bind fun v26 => some (v26))).bind fun (t10 : Int32) => (if t6 = 0 then (some ((0))) else ((f_X1_isShortcut ((2) * x1) σ).bind fun r24 => if r24 = 0 then (some ((0))) else (some (t10)))).bind fun (t14 : Int32) => (fl_wr σ 8 40 ((2) * x1) (t10 - t14)).bind fun σ17 => (fl_wr σ17 8 40 (((2) * x1) + (1)) t14).bind fun σ20 => f_X1_fillLightArcs_l2 n (x1 + 1) σ20)
def f_X1_fillLightArcs (σ : fl_St) : Option (fl_St) := (f_X1_fillLightArcs_l2 fl_N (0) σ).bind fun (σ29 : fl_St) => some σ29
def rm_X1_fillLightArcs : Room := { frames := 1, cells := 0, slots := 0, locals := 21 }
set_option maxHeartbeats 4000000 in
set_option maxRecDepth 100000 in
theorem c_X1_fillLightArcs (l : Launch) (D : va_G) (ad : Nat → Nat) (cz : Nat → ClassId) (σ : fl_St) {σ' : fl_St} (h : f_X1_fillLightArcs σ = some σ') : gMv l yX1_fillLightArcs wsX1_fillLightArcs rm_X1_fillLightArcs D (wc ad cz) (wcT cz) wcN [.ref (ad 2)] σ σ' := by
  refine gMv_of (cc := cX1_fillLightArcs) (maxL := 5) (by decide) rfl (Nat.le_of_ble_eq_true rfl) ?_
  intro p e s m args below meth c A Q ls hx hb hml hown hts hK hA hg hl hret
  have hown : s.vm.findClass RX1 = some m.cls := hown
  have hl : lv_has ls 5 [(0, .ref (ad 2))] := hl
  have k_0 := hts (.fieldLink RX1 12 "FlowLedger$Router" "network" "LFlowLedger$Network;") (by decide +kernel)
  have k_1 := (by decide +kernel : ∀ w ∈ wsX10, w ∈ wsX1_fillLightArcs)
  have k_2 := hts (.fieldLink RX1 40 "FlowLedger$Network" "count" "I") (by decide +kernel)
  have k_3 := (by decide +kernel : ∀ w ∈ wsX00, w ∈ wsX1_fillLightArcs)
  have k_4 := hts (.fieldLink RX1 82 "FlowLedger$Network" "capacity" "[I") (by decide +kernel)
  have k_5 := hts (.fieldLink RX1 28 "FlowLedger$Router" "room" "[I") (by decide +kernel)
  have L2 : ∀ (n : Nat) (x1 : Int32) (σ : fl_St) (σo : fl_St) (H : Heap) (locs : List Loc) (ls : Array Slot), f_X1_fillLightArcs_l2 n x1 σ = some (σo) → gS D (wc ad cz) A s.heap σ H locs → lv_has ls 5 [(0, .ref (ad 2)), (1, .int x1)] → (∀ (H : Heap) (locs : List Loc) (ls : Array Slot), gS D (wc ad cz) A s.heap σo H locs → lv_has ls 5 [] → W p l e rm_X1_fillLightArcs s m args below meth c H locs 0 0 Q (F0 m 103 ls [])) → W p l e rm_X1_fillLightArcs s m args below meth c H locs 0 0 Q (F0 m 2 ls []) := by
    intro n
    induction n with
    | zero =>
      intro x1 σ σo H locs ls h hg hl kk0
      rw [f_X1_fillLightArcs_l2] at h
      cases h
    | succ n ih =>
      intro x1 σ σo H locs ls h hg hl kk0
      rw [f_X1_fillLightArcs_l2] at h
      refine lv_iload_n hx hb dX1_fillLightArcs_2 rfl (lv_at hl 1 rfl) ?_
      refine lv_aload_n hx hb dX1_fillLightArcs_3 rfl (lv_at hl 0 rfl) ?_
      refine va_get (D := D) (ci := 1) (v := .ref (ad 1)) (C := RX1) (T := TX1) (N := 8) hx hb hts k_1 hown hK.1 hg.1 2 rfl rfl 0 (by decide) k_0 (fun _ h9 => h9) rfl dX1_fillLightArcs_4 ?_
      refine va_get (D := D) (ci := 0) (v := .int (σ 12 0)) (C := RX0) (T := TX0) (N := 6) hx hb hts k_3 hown hK.1 hg.1 1 rfl rfl 5 (by decide) k_2 (fun _ h9 => h9) rfl dX1_fillLightArcs_7 ?_
      refine lv_icmp_ge (tgt := 103) hx hb dX1_fillLightArcs_10 (by decide) (fun c1 => ?_) (fun c1 => ?_)
      · have h := fl_ifp c1 h
        obtain rfl := fl_s1 h
        exact kk0 H locs ls hg (lv_sub hl [] rfl)
      · have h := fl_ifn c1 h
        refine lv_aload_n hx hb dX1_fillLightArcs_13 rfl (lv_at hl 0 rfl) ?_
        refine va_get (D := D) (ci := 1) (v := .ref (ad 1)) (C := RX1) (T := TX1) (N := 8) hx hb hts k_1 hown hK.1 hg.1 2 rfl rfl 0 (by decide) k_0 (fun _ h9 => h9) rfl dX1_fillLightArcs_14 ?_
        refine va_get (D := D) (ci := 0) (v := .ref (ad 5)) (C := RX0) (T := TX0) (N := 6) hx hb hts k_3 hown hK.1 hg.1 1 rfl rfl 2 (by decide) k_4 (fun _ h9 => h9) rfl dX1_fillLightArcs_17 ?_
        refine lv_iload_n hx hb dX1_fillLightArcs_20 rfl (lv_at hl 1 rfl) ?_
        obtain ⟨v2, i3, e4, h⟩ := fl_rd_b h
        refine g_ld (n := 20) (t0 := 2) hx hb hK hg (wc_a2 ad cz _) rfl i3 e4 dX1_fillLightArcs_21 ?_
        refine lv_iconst (v := (-1)) hx hb dX1_fillLightArcs_22 (by decide) ?_
        obtain ⟨t6, hB8, h⟩ := fl_bnd h
        have J7 : ∀ (H : Heap) (locs : List Loc) (ls : Array Slot), gS D (wc ad cz) A s.heap σ H locs → lv_has ls 5 [(0, .ref (ad 2)), (1, .int x1)] → W p l e rm_X1_fillLightArcs s m args below meth c H locs 0 0 Q (F0 m 31 ls [.int t6]) := by
          intro H locs ls hg hl
          refine lv_istore_n (lv' := [(2, .int t6), (0, .ref (ad 2)), (1, .int x1)]) hx hb dX1_fillLightArcs_31 rfl hl (by decide) rfl (fun ls hl => ?_)
          refine lv_iload_n hx hb dX1_fillLightArcs_32 rfl (lv_at hl 0 rfl) ?_
          obtain ⟨t10, hB12, h⟩ := fl_bnd h
          have J11 : ∀ (H : Heap) (locs : List Loc) (ls : Array Slot), gS D (wc ad cz) A s.heap σ H locs → lv_has ls 5 [(0, .ref (ad 2)), (1, .int x1), (2, .int t6)] → W p l e rm_X1_fillLightArcs s m args below meth c H locs 0 0 Q (F0 m 51 ls [.int t10]) := by
            intro H locs ls hg hl
            refine lv_istore_n (lv' := [(3, .int t10), (0, .ref (ad 2)), (1, .int x1), (2, .int t6)]) hx hb dX1_fillLightArcs_51 rfl hl (by decide) rfl (fun ls hl => ?_)
            refine lv_iload_n hx hb dX1_fillLightArcs_52 rfl (lv_at hl 3 rfl) ?_
            obtain ⟨t14, hB16, h⟩ := fl_bnd h
            have J15 : ∀ (H : Heap) (locs : List Loc) (ls : Array Slot), gS D (wc ad cz) A s.heap σ H locs → lv_has ls 5 [(0, .ref (ad 2)), (1, .int x1), (3, .int t10)] → W p l e rm_X1_fillLightArcs s m args below meth c H locs 0 0 Q (F0 m 71 ls [.int t14]) := by
              intro H locs ls hg hl
              refine lv_istore (lv' := [(4, .int t14), (0, .ref (ad 2)), (1, .int x1), (3, .int t10)]) hx hb dX1_fillLightArcs_71 hl (by decide) rfl (fun ls hl => ?_)
              refine lv_aload_n hx hb dX1_fillLightArcs_73 rfl (lv_at hl 1 rfl) ?_
              refine va_get (D := D) (ci := 1) (v := .ref (ad 11)) (C := RX1) (T := TX1) (N := 8) hx hb hts k_1 hown hK.1 hg.1 2 rfl rfl 4 (by decide) k_5 (fun _ h9 => h9) rfl dX1_fillLightArcs_74 ?_
              refine lv_iconst (v := (2)) hx hb dX1_fillLightArcs_77 (by decide) ?_
              refine lv_iload_n hx hb dX1_fillLightArcs_78 rfl (lv_at hl 2 rfl) ?_
              refine lv_imul hx hb dX1_fillLightArcs_79 ?_
              refine lv_iload_n hx hb dX1_fillLightArcs_80 rfl (lv_at hl 3 rfl) ?_
              refine lv_iload hx hb dX1_fillLightArcs_81 (lv_at hl 0 rfl) ?_
              refine lv_isub hx hb dX1_fillLightArcs_83 ?_
              obtain ⟨σ17, i18, e19, h⟩ := fl_wr_b h
              refine g_st (n := 40) (t0 := 8) hx hb hK hg (wc_a8 ad cz _) (wc_s8 ad cz _) rfl i18 e19 dX1_fillLightArcs_84 (fun H locs hg => ?_)
              refine lv_aload_n hx hb dX1_fillLightArcs_85 rfl (lv_at hl 1 rfl) ?_
              refine va_get (D := D) (ci := 1) (v := .ref (ad 11)) (C := RX1) (T := TX1) (N := 8) hx hb hts k_1 hown hK.1 hg.1 2 rfl rfl 4 (by decide) k_5 (fun _ h9 => h9) rfl dX1_fillLightArcs_86 ?_
              refine lv_iconst (v := (2)) hx hb dX1_fillLightArcs_89 (by decide) ?_
              refine lv_iload_n hx hb dX1_fillLightArcs_90 rfl (lv_at hl 2 rfl) ?_
              refine lv_imul hx hb dX1_fillLightArcs_91 ?_
              refine lv_iconst (v := (1)) hx hb dX1_fillLightArcs_92 (by decide) ?_
              refine lv_iadd hx hb dX1_fillLightArcs_93 ?_
              refine lv_iload hx hb dX1_fillLightArcs_94 (lv_at hl 0 rfl) ?_
              obtain ⟨σ20, i21, e22, h⟩ := fl_wr_b h
              refine g_st (n := 40) (t0 := 8) hx hb hK hg (wc_a8 ad cz _) (wc_s8 ad cz _) rfl i21 e22 dX1_fillLightArcs_96 (fun H locs hg => ?_)
              refine lv_iinc (v := (x1 + 1)) (lv' := [(1, .int (x1 + 1)), (4, .int t14), (0, .ref (ad 2)), (3, .int t10)]) hx hb dX1_fillLightArcs_97 hl (k := 2) rfl rfl (by decide) rfl (fun ls hl => ?_)
              refine lv_goto (tgt := 2) hx hb dX1_fillLightArcs_100 (by decide) ?_
              exact ih _ _ _ _ _ _ h hg (lv_sub hl [2, 0] rfl) kk0
            clear h
            have h := hB16
            refine lv_if_eq (tgt := 70) hx hb dX1_fillLightArcs_53 (by decide) (fun c13 => ?_) (fun c13 => ?_)
            · have h := fl_ifp c13 h
              refine lv_iconst (v := (0)) hx hb dX1_fillLightArcs_70 (by decide) ?_
              obtain rfl := fl_s1 h
              exact J15 H locs ls hg (lv_sub hl [1, 2, 0] rfl)
            · have h := fl_ifn c13 h
              refine lv_aload_n hx hb dX1_fillLightArcs_56 rfl (lv_at hl 1 rfl) ?_
              refine lv_iconst (v := (2)) hx hb dX1_fillLightArcs_57 (by decide) ?_
              refine lv_iload_n hx hb dX1_fillLightArcs_58 rfl (lv_at hl 2 rfl) ?_
              refine lv_imul hx hb dX1_fillLightArcs_59 ?_
              obtain ⟨r24, e23, h⟩ := fl_bnd h
              refine g_callVi (As := [.int ((2) * x1)]) (rest := []) ⟨hx, hb, hml, hown, hts⟩ (c_X1_isShortcut l D ad cz (((2) * x1)) (σ) e23) (cwV 1 hts gX1_fillLightArcs_X1_isShortcut rfl rfl rfl (by decide +kernel) ⟨Nat.le_of_ble_eq_true rfl, Nat.le_of_ble_eq_true rfl⟩) (va_recv hK.1 hg.1 (ci := 1) (q0 := 2) rfl rfl) hK hA hg rfl hl.1 rfl (Nat.le_of_ble_eq_true rfl) dX1_fillLightArcs_60 ⟨Nat.le_of_ble_eq_true rfl, Nat.le_of_ble_eq_true rfl⟩ (fun H locs hg => ?_)
              refine lv_if_eq (tgt := 70) hx hb dX1_fillLightArcs_63 (by decide) (fun c25 => ?_) (fun c25 => ?_)
              · have h := fl_ifp c25 h
                refine lv_iconst (v := (0)) hx hb dX1_fillLightArcs_70 (by decide) ?_
                obtain rfl := fl_s1 h
                exact J15 H locs ls hg (lv_sub hl [1, 2, 0] rfl)
              · have h := fl_ifn c25 h
                refine lv_iload_n hx hb dX1_fillLightArcs_66 rfl (lv_at hl 0 rfl) ?_
                refine lv_goto (tgt := 71) hx hb dX1_fillLightArcs_67 (by decide) ?_
                obtain rfl := fl_s1 h
                exact J15 H locs ls hg (lv_sub hl [1, 2, 0] rfl)
          clear h
          have h := hB12
          refine lv_if_eq (tgt := 48) hx hb dX1_fillLightArcs_33 (by decide) (fun c9 => ?_) (fun c9 => ?_)
          · have h := fl_ifp c9 h
            refine lv_sipush (v := (1680)) hx hb dX1_fillLightArcs_48 (by decide) ?_
            obtain rfl := fl_s1 h
            exact J11 H locs ls hg (lv_sub hl [1, 2, 0] rfl)
          · have h := fl_ifn c9 h
            refine lv_aload_n hx hb dX1_fillLightArcs_36 rfl (lv_at hl 1 rfl) ?_
            refine va_get (D := D) (ci := 1) (v := .ref (ad 1)) (C := RX1) (T := TX1) (N := 8) hx hb hts k_1 hown hK.1 hg.1 2 rfl rfl 0 (by decide) k_0 (fun _ h9 => h9) rfl dX1_fillLightArcs_37 ?_
            refine va_get (D := D) (ci := 0) (v := .ref (ad 5)) (C := RX0) (T := TX0) (N := 6) hx hb hts k_3 hown hK.1 hg.1 1 rfl rfl 2 (by decide) k_4 (fun _ h9 => h9) rfl dX1_fillLightArcs_40 ?_
            refine lv_iload_n hx hb dX1_fillLightArcs_43 rfl (lv_at hl 2 rfl) ?_
            obtain ⟨v26, i27, e28, h⟩ := fl_rd_b h
            refine g_ld (n := 20) (t0 := 2) hx hb hK hg (wc_a2 ad cz _) rfl i27 e28 dX1_fillLightArcs_44 ?_
            refine lv_goto (tgt := 51) hx hb dX1_fillLightArcs_45 (by decide) ?_
            obtain rfl := fl_s1 h
            exact J11 H locs ls hg (lv_sub hl [1, 2, 0] rfl)
        clear h
        have h := hB8
        refine lv_icmp_eq (tgt := 30) hx hb dX1_fillLightArcs_23 (by decide) (fun c5 => ?_) (fun c5 => ?_)
        · have h := fl_ifp c5 h
          refine lv_iconst (v := (0)) hx hb dX1_fillLightArcs_30 (by decide) ?_
          obtain rfl := fl_s1 h
          exact J7 H locs ls hg (lv_sub hl [0, 1] rfl)
        · have h := fl_ifn c5 h
          refine lv_iconst (v := (1)) hx hb dX1_fillLightArcs_26 (by decide) ?_
          refine lv_goto (tgt := 31) hx hb dX1_fillLightArcs_27 (by decide) ?_
          obtain rfl := fl_s1 h
          exact J7 H locs ls hg (lv_sub hl [0, 1] rfl)
  unfold f_X1_fillLightArcs at h
  have W0 : ∀ (H : Heap) (locs : List Loc), gS D (wc ad cz) A s.heap σ H locs → W p l e rm_X1_fillLightArcs s m args below meth c H locs 0 0 Q (F0 m 0 ls []) := by
    intro H locs hg
    refine lv_iconst (v := (0)) hx hb dX1_fillLightArcs_0 (by decide) ?_
    refine lv_istore_n (lv' := [(1, .int (0)), (0, .ref (ad 2))]) hx hb dX1_fillLightArcs_1 rfl hl (by decide) rfl (fun ls hl => ?_)
    obtain ⟨σ29, hB30, h⟩ := fl_bnd h
    refine L2 fl_N _ _ _ H locs ls hB30 hg (lv_sub hl [1, 0] rfl) (fun H locs ls hg hl => ?_)
    exact hret _ _ _ _ _ h hg dX1_fillLightArcs_103
  exact W0 _ _ hg
def f_X1_countExcess_l2 : Nat → Int32 → fl_St → Option (fl_St)
  | 0, _, _ => none
  | n + 1, x1, σ => if (8) ≤ x1 then (some (σ)) else ((fl_rd σ 4 8 x1).bind fun v2 => (fl_wr σ 9 8 x1 v2).bind fun σ5 => f_X1_countExcess_l2 n (x1 + 1) σ5)
def f_X1_countExcess_l31 : Nat → Int32 → fl_St → Option (fl_St)
  | 0, _, _ => none
  | n + 1, x1, σ => if (σ 12 0) ≤ x1 then (some (σ)) else ((fl_rd σ 0 20 x1).bind fun v11 => (fl_rd σ 9 8 v11).bind fun v14 => (fl_rd σ 8 40 (((2) * x1) + (1))).bind fun v17 => (fl_wr σ 9 8 v11 (v14 - v17)).bind fun σ20 => (fl_rd σ20 1 20 x1).bind fun v23 => (fl_rd σ20 9 8 v23).bind fun v26 => (fl_rd σ20 8 40 (((2) * x1) + (1))).bind fun v29 => (fl_wr σ20 9 8 v23 (v26 + v29)).bind fun σ32 => f_X1_countExcess_l31 n (x1 + 1) σ32)
def f_X1_countExcess (σ : fl_St) : Option (fl_St) := (f_X1_countExcess_l2 fl_N (0) σ).bind fun (σ8 : fl_St) => (f_X1_countExcess_l31 fl_N (0) σ8).bind fun (σ35 : fl_St) => some σ35
def rm_X1_countExcess : Room := { frames := 0, cells := 0, slots := 0, locals := 0 }
set_option maxHeartbeats 4000000 in
set_option maxRecDepth 100000 in
theorem c_X1_countExcess (l : Launch) (D : va_G) (ad : Nat → Nat) (cz : Nat → ClassId) (σ : fl_St) {σ' : fl_St} (h : f_X1_countExcess σ = some σ') : gMv l yX1_countExcess wsX1_countExcess rm_X1_countExcess D (wc ad cz) (wcT cz) wcN [.ref (ad 2)] σ σ' := by
  refine gMv_of (cc := cX1_countExcess) (maxL := 2) (by decide) rfl (Nat.le_of_ble_eq_true rfl) ?_
  intro p e s m args below meth c A Q ls hx hb hml hown hts hK hA hg hl hret
  have hown : s.vm.findClass RX1 = some m.cls := hown
  have hl : lv_has ls 2 [(0, .ref (ad 2))] := hl
  have k_0 := hts (.fieldLink RX1 31 "FlowLedger$Router" "excess" "[I") (by decide +kernel)
  have k_1 := (by decide +kernel : ∀ w ∈ wsX10, w ∈ wsX1_countExcess)
  have k_2 := hts (.fieldLink RX1 12 "FlowLedger$Router" "network" "LFlowLedger$Network;") (by decide +kernel)
  have k_3 := hts (.fieldLink RX1 89 "FlowLedger$Network" "supply" "[I") (by decide +kernel)
  have k_4 := (by decide +kernel : ∀ w ∈ wsX00, w ∈ wsX1_countExcess)
  have k_5 := hts (.fieldLink RX1 40 "FlowLedger$Network" "count" "I") (by decide +kernel)
  have k_6 := hts (.fieldLink RX1 44 "FlowLedger$Network" "from" "[I") (by decide +kernel)
  have k_7 := hts (.fieldLink RX1 28 "FlowLedger$Router" "room" "[I") (by decide +kernel)
  have k_8 := hts (.fieldLink RX1 47 "FlowLedger$Network" "to" "[I") (by decide +kernel)
  have L2 : ∀ (n : Nat) (x1 : Int32) (σ : fl_St) (σo : fl_St) (H : Heap) (locs : List Loc) (ls : Array Slot), f_X1_countExcess_l2 n x1 σ = some (σo) → gS D (wc ad cz) A s.heap σ H locs → lv_has ls 2 [(0, .ref (ad 2)), (1, .int x1)] → (∀ (H : Heap) (locs : List Loc) (ls : Array Slot), gS D (wc ad cz) A s.heap σo H locs → lv_has ls 2 [(0, .ref (ad 2))] → W p l e rm_X1_countExcess s m args below meth c H locs 0 0 Q (F0 m 29 ls [])) → W p l e rm_X1_countExcess s m args below meth c H locs 0 0 Q (F0 m 2 ls []) := by
    intro n
    induction n with
    | zero =>
      intro x1 σ σo H locs ls h hg hl kk0
      rw [f_X1_countExcess_l2] at h
      cases h
    | succ n ih =>
      intro x1 σ σo H locs ls h hg hl kk0
      rw [f_X1_countExcess_l2] at h
      refine lv_iload_n hx hb dX1_countExcess_2 rfl (lv_at hl 1 rfl) ?_
      refine lv_bipush (v := (8)) hx hb dX1_countExcess_3 (by decide) ?_
      refine lv_icmp_ge (tgt := 29) hx hb dX1_countExcess_5 (by decide) (fun c1 => ?_) (fun c1 => ?_)
      · have h := fl_ifp c1 h
        obtain rfl := fl_s1 h
        exact kk0 H locs ls hg (lv_sub hl [0] rfl)
      · have h := fl_ifn c1 h
        refine lv_aload_n hx hb dX1_countExcess_8 rfl (lv_at hl 0 rfl) ?_
        refine va_get (D := D) (ci := 1) (v := .ref (ad 12)) (C := RX1) (T := TX1) (N := 8) hx hb hts k_1 hown hK.1 hg.1 2 rfl rfl 5 (by decide) k_0 (fun _ h9 => h9) rfl dX1_countExcess_9 ?_
        refine lv_iload_n hx hb dX1_countExcess_12 rfl (lv_at hl 1 rfl) ?_
        refine lv_aload_n hx hb dX1_countExcess_13 rfl (lv_at hl 0 rfl) ?_
        refine va_get (D := D) (ci := 1) (v := .ref (ad 1)) (C := RX1) (T := TX1) (N := 8) hx hb hts k_1 hown hK.1 hg.1 2 rfl rfl 0 (by decide) k_2 (fun _ h9 => h9) rfl dX1_countExcess_14 ?_
        refine va_get (D := D) (ci := 0) (v := .ref (ad 7)) (C := RX0) (T := TX0) (N := 6) hx hb hts k_4 hown hK.1 hg.1 1 rfl rfl 4 (by decide) k_3 (fun _ h9 => h9) rfl dX1_countExcess_17 ?_
        refine lv_iload_n hx hb dX1_countExcess_20 rfl (lv_at hl 1 rfl) ?_
        obtain ⟨v2, i3, e4, h⟩ := fl_rd_b h
        refine g_ld (n := 8) (t0 := 4) hx hb hK hg (wc_a4 ad cz _) rfl i3 e4 dX1_countExcess_21 ?_
        obtain ⟨σ5, i6, e7, h⟩ := fl_wr_b h
        refine g_st (n := 8) (t0 := 9) hx hb hK hg (wc_a9 ad cz _) (wc_s9 ad cz _) rfl i6 e7 dX1_countExcess_22 (fun H locs hg => ?_)
        refine lv_iinc (v := (x1 + 1)) (lv' := [(1, .int (x1 + 1)), (0, .ref (ad 2))]) hx hb dX1_countExcess_23 hl (k := 1) rfl rfl (by decide) rfl (fun ls hl => ?_)
        refine lv_goto (tgt := 2) hx hb dX1_countExcess_26 (by decide) ?_
        exact ih _ _ _ _ _ _ h hg (lv_sub hl [1, 0] rfl) kk0
  have L31 : ∀ (n : Nat) (x1 : Int32) (σ : fl_St) (σo : fl_St) (H : Heap) (locs : List Loc) (ls : Array Slot), f_X1_countExcess_l31 n x1 σ = some (σo) → gS D (wc ad cz) A s.heap σ H locs → lv_has ls 2 [(0, .ref (ad 2)), (1, .int x1)] → (∀ (H : Heap) (locs : List Loc) (ls : Array Slot), gS D (wc ad cz) A s.heap σo H locs → lv_has ls 2 [] → W p l e rm_X1_countExcess s m args below meth c H locs 0 0 Q (F0 m 102 ls [])) → W p l e rm_X1_countExcess s m args below meth c H locs 0 0 Q (F0 m 31 ls []) := by
    intro n
    induction n with
    | zero =>
      intro x1 σ σo H locs ls h hg hl kk0
      rw [f_X1_countExcess_l31] at h
      cases h
    | succ n ih =>
      intro x1 σ σo H locs ls h hg hl kk0
      rw [f_X1_countExcess_l31] at h
      refine lv_iload_n hx hb dX1_countExcess_31 rfl (lv_at hl 1 rfl) ?_
      refine lv_aload_n hx hb dX1_countExcess_32 rfl (lv_at hl 0 rfl) ?_
      refine va_get (D := D) (ci := 1) (v := .ref (ad 1)) (C := RX1) (T := TX1) (N := 8) hx hb hts k_1 hown hK.1 hg.1 2 rfl rfl 0 (by decide) k_2 (fun _ h9 => h9) rfl dX1_countExcess_33 ?_
      refine va_get (D := D) (ci := 0) (v := .int (σ 12 0)) (C := RX0) (T := TX0) (N := 6) hx hb hts k_4 hown hK.1 hg.1 1 rfl rfl 5 (by decide) k_5 (fun _ h9 => h9) rfl dX1_countExcess_36 ?_
      refine lv_icmp_ge (tgt := 102) hx hb dX1_countExcess_39 (by decide) (fun c10 => ?_) (fun c10 => ?_)
      · have h := fl_ifp c10 h
        obtain rfl := fl_s1 h
        exact kk0 H locs ls hg (lv_sub hl [] rfl)
      · have h := fl_ifn c10 h
        refine lv_aload_n hx hb dX1_countExcess_42 rfl (lv_at hl 0 rfl) ?_
        refine va_get (D := D) (ci := 1) (v := .ref (ad 12)) (C := RX1) (T := TX1) (N := 8) hx hb hts k_1 hown hK.1 hg.1 2 rfl rfl 5 (by decide) k_0 (fun _ h9 => h9) rfl dX1_countExcess_43 ?_
        refine lv_aload_n hx hb dX1_countExcess_46 rfl (lv_at hl 0 rfl) ?_
        refine va_get (D := D) (ci := 1) (v := .ref (ad 1)) (C := RX1) (T := TX1) (N := 8) hx hb hts k_1 hown hK.1 hg.1 2 rfl rfl 0 (by decide) k_2 (fun _ h9 => h9) rfl dX1_countExcess_47 ?_
        refine va_get (D := D) (ci := 0) (v := .ref (ad 3)) (C := RX0) (T := TX0) (N := 6) hx hb hts k_4 hown hK.1 hg.1 1 rfl rfl 0 (by decide) k_6 (fun _ h9 => h9) rfl dX1_countExcess_50 ?_
        refine lv_iload_n hx hb dX1_countExcess_53 rfl (lv_at hl 1 rfl) ?_
        obtain ⟨v11, i12, e13, h⟩ := fl_rd_b h
        refine g_ld (n := 20) (t0 := 0) hx hb hK hg (wc_a0 ad cz _) rfl i12 e13 dX1_countExcess_54 ?_
        refine lv_dup2_11 hx hb dX1_countExcess_55 rfl rfl ?_
        obtain ⟨v14, i15, e16, h⟩ := fl_rd_b h
        refine g_ld (n := 8) (t0 := 9) hx hb hK hg (wc_a9 ad cz _) rfl i15 e16 dX1_countExcess_56 ?_
        refine lv_aload_n hx hb dX1_countExcess_57 rfl (lv_at hl 0 rfl) ?_
        refine va_get (D := D) (ci := 1) (v := .ref (ad 11)) (C := RX1) (T := TX1) (N := 8) hx hb hts k_1 hown hK.1 hg.1 2 rfl rfl 4 (by decide) k_7 (fun _ h9 => h9) rfl dX1_countExcess_58 ?_
        refine lv_iconst (v := (2)) hx hb dX1_countExcess_61 (by decide) ?_
        refine lv_iload_n hx hb dX1_countExcess_62 rfl (lv_at hl 1 rfl) ?_
        refine lv_imul hx hb dX1_countExcess_63 ?_
        refine lv_iconst (v := (1)) hx hb dX1_countExcess_64 (by decide) ?_
        refine lv_iadd hx hb dX1_countExcess_65 ?_
        obtain ⟨v17, i18, e19, h⟩ := fl_rd_b h
        refine g_ld (n := 40) (t0 := 8) hx hb hK hg (wc_a8 ad cz _) rfl i18 e19 dX1_countExcess_66 ?_
        refine lv_isub hx hb dX1_countExcess_67 ?_
        obtain ⟨σ20, i21, e22, h⟩ := fl_wr_b h
        refine g_st (n := 8) (t0 := 9) hx hb hK hg (wc_a9 ad cz _) (wc_s9 ad cz _) rfl i21 e22 dX1_countExcess_68 (fun H locs hg => ?_)
        refine lv_aload_n hx hb dX1_countExcess_69 rfl (lv_at hl 0 rfl) ?_
        refine va_get (D := D) (ci := 1) (v := .ref (ad 12)) (C := RX1) (T := TX1) (N := 8) hx hb hts k_1 hown hK.1 hg.1 2 rfl rfl 5 (by decide) k_0 (fun _ h9 => h9) rfl dX1_countExcess_70 ?_
        refine lv_aload_n hx hb dX1_countExcess_73 rfl (lv_at hl 0 rfl) ?_
        refine va_get (D := D) (ci := 1) (v := .ref (ad 1)) (C := RX1) (T := TX1) (N := 8) hx hb hts k_1 hown hK.1 hg.1 2 rfl rfl 0 (by decide) k_2 (fun _ h9 => h9) rfl dX1_countExcess_74 ?_
        refine va_get (D := D) (ci := 0) (v := .ref (ad 4)) (C := RX0) (T := TX0) (N := 6) hx hb hts k_4 hown hK.1 hg.1 1 rfl rfl 1 (by decide) k_8 (fun _ h9 => h9) rfl dX1_countExcess_77 ?_
        refine lv_iload_n hx hb dX1_countExcess_80 rfl (lv_at hl 1 rfl) ?_
        obtain ⟨v23, i24, e25, h⟩ := fl_rd_b h
        refine g_ld (n := 20) (t0 := 1) hx hb hK hg (wc_a1 ad cz _) rfl i24 e25 dX1_countExcess_81 ?_
        refine lv_dup2_11 hx hb dX1_countExcess_82 rfl rfl ?_
        obtain ⟨v26, i27, e28, h⟩ := fl_rd_b h
        refine g_ld (n := 8) (t0 := 9) hx hb hK hg (wc_a9 ad cz _) rfl i27 e28 dX1_countExcess_83 ?_
        refine lv_aload_n hx hb dX1_countExcess_84 rfl (lv_at hl 0 rfl) ?_
        refine va_get (D := D) (ci := 1) (v := .ref (ad 11)) (C := RX1) (T := TX1) (N := 8) hx hb hts k_1 hown hK.1 hg.1 2 rfl rfl 4 (by decide) k_7 (fun _ h9 => h9) rfl dX1_countExcess_85 ?_
        refine lv_iconst (v := (2)) hx hb dX1_countExcess_88 (by decide) ?_
        refine lv_iload_n hx hb dX1_countExcess_89 rfl (lv_at hl 1 rfl) ?_
        refine lv_imul hx hb dX1_countExcess_90 ?_
        refine lv_iconst (v := (1)) hx hb dX1_countExcess_91 (by decide) ?_
        refine lv_iadd hx hb dX1_countExcess_92 ?_
        obtain ⟨v29, i30, e31, h⟩ := fl_rd_b h
        refine g_ld (n := 40) (t0 := 8) hx hb hK hg (wc_a8 ad cz _) rfl i30 e31 dX1_countExcess_93 ?_
        refine lv_iadd hx hb dX1_countExcess_94 ?_
        obtain ⟨σ32, i33, e34, h⟩ := fl_wr_b h
        refine g_st (n := 8) (t0 := 9) hx hb hK hg (wc_a9 ad cz _) (wc_s9 ad cz _) rfl i33 e34 dX1_countExcess_95 (fun H locs hg => ?_)
        refine lv_iinc (v := (x1 + 1)) (lv' := [(1, .int (x1 + 1)), (0, .ref (ad 2))]) hx hb dX1_countExcess_96 hl (k := 1) rfl rfl (by decide) rfl (fun ls hl => ?_)
        refine lv_goto (tgt := 31) hx hb dX1_countExcess_99 (by decide) ?_
        exact ih _ _ _ _ _ _ h hg (lv_sub hl [1, 0] rfl) kk0
  unfold f_X1_countExcess at h
  have W0 : ∀ (H : Heap) (locs : List Loc), gS D (wc ad cz) A s.heap σ H locs → W p l e rm_X1_countExcess s m args below meth c H locs 0 0 Q (F0 m 0 ls []) := by
    intro H locs hg
    refine lv_iconst (v := (0)) hx hb dX1_countExcess_0 (by decide) ?_
    refine lv_istore_n (lv' := [(1, .int (0)), (0, .ref (ad 2))]) hx hb dX1_countExcess_1 rfl hl (by decide) rfl (fun ls hl => ?_)
    obtain ⟨σ8, hB9, h⟩ := fl_bnd h
    refine L2 fl_N _ _ _ H locs ls hB9 hg (lv_sub hl [1, 0] rfl) (fun H locs ls hg hl => ?_)
    refine lv_iconst (v := (0)) hx hb dX1_countExcess_29 (by decide) ?_
    refine lv_istore_n (lv' := [(1, .int (0)), (0, .ref (ad 2))]) hx hb dX1_countExcess_30 rfl hl (by decide) rfl (fun ls hl => ?_)
    obtain ⟨σ35, hB36, h⟩ := fl_bnd h
    refine L31 fl_N _ _ _ H locs ls hB36 hg (lv_sub hl [1, 0] rfl) (fun H locs ls hg hl => ?_)
    exact hret _ _ _ _ _ h hg dX1_countExcess_102
  exact W0 _ _ hg
def f_X1_measure_l19 (x1 : Int32) (x3 : Int32) : Nat → Int32 → Int32 → fl_St → Option (Int32 × fl_St)
  | 0, _, _, _ => none
  | n + 1, x2, x4, σ => if ((2) * (σ 12 0)) ≤ x4 then (some (x2, σ)) else ((fl_rd σ 8 40 x4).bind fun v4 => (if v4 ≤ 0 then (some ((0))) else (if (x4 >>> ((1) &&& 31)) = x1 then (some ((0))) else (some ((1))))).bind fun (t8 : Int32) => fl_b2 (if t8 = 0 then (some (x2, σ)) else ((fl_rd σ 5 40 x4).bind fun v16 => (fl_rd σ 10 8 v16).bind fun v19 => if (1000000000) ≤ v19 then (some (x2, σ)) else ((f_X1_isShortcut x4 σ).bind fun r24 => if r24 = 0 then (some (x2, σ)) else ((fl_rd σ 6 40 x4).bind fun v26 => (fl_rd σ 5 40 x4).bind fun v29 => (fl_rd σ 10 8 v29).bind fun v32 => (fl_rd σ 7 40 x4).bind fun v35 => (fl_wr σ 10 8 v26 (v32 + v35)).bind fun σ38 => (fl_rd σ38 6 40 x4).bind fun v41 => (fl_wr σ38 11 8 v41 x4).bind fun σ44 => some ((1), σ44))))) fun (w12 : Int32) (σ13 : fl_St) => f_X1_measure_l19 x1 x3 n w12 (x4 + 1) σ13)
def f_X1_measure_l4 (x1 : Int32) : Nat → Int32 → Int32 → fl_St → Option (fl_St)
  | 0, _, _, _ => none
  | n + 1, x2, x3, σ => if x2 = 0 then (some (σ)) else (if (8) ≤ x3 then (some (σ)) else (fl_b2 (f_X1_measure_l19 x1 x3 fl_N (0) (0) σ) fun (w48 : Int32) (σ49 : fl_St) => f_X1_measure_l4 x1 n w48 (x3 + 1) σ49))
def f_X1_measure (x1 : Int32) (σ : fl_St) : Option (fl_St) := (f_X1_measure_l4 x1 fl_N (1) (0) σ).bind fun (σ51 : fl_St) => some σ51
def rm_X1_measure : Room := { frames := 1, cells := 0, slots := 0, locals := 21 }
set_option maxHeartbeats 4000000 in
set_option maxRecDepth 100000 in
theorem c_X1_measure (l : Launch) (D : va_G) (ad : Nat → Nat) (cz : Nat → ClassId) (x1 : Int32) (σ : fl_St) {σ' : fl_St} (h : f_X1_measure x1 σ = some σ') : gMv l yX1_measure wsX1_measure rm_X1_measure D (wc ad cz) (wcT cz) wcN [.ref (ad 2), .int x1] σ σ' := by
  refine gMv_of (cc := cX1_measure) (maxL := 6) (by decide) rfl (Nat.le_of_ble_eq_true rfl) ?_
  intro p e s m args below meth c A Q ls hx hb hml hown hts hK hA hg hl hret
  have hown : s.vm.findClass RX1 = some m.cls := hown
  have hl : lv_has ls 6 [(0, .ref (ad 2)), (1, .int x1)] := hl
  have k_0 := hts (.fieldLink RX1 12 "FlowLedger$Router" "network" "LFlowLedger$Network;") (by decide +kernel)
  have k_1 := (by decide +kernel : ∀ w ∈ wsX10, w ∈ wsX1_measure)
  have k_2 := hts (.fieldLink RX1 40 "FlowLedger$Network" "count" "I") (by decide +kernel)
  have k_3 := (by decide +kernel : ∀ w ∈ wsX00, w ∈ wsX1_measure)
  have k_4 := hts (.fieldLink RX1 28 "FlowLedger$Router" "room" "[I") (by decide +kernel)
  have k_5 := hts (.fieldLink RX1 34 "FlowLedger$Router" "distance" "[I") (by decide +kernel)
  have k_6 := hts (.fieldLink RX1 18 "FlowLedger$Router" "tail" "[I") (by decide +kernel)
  have k_7 := hts (.constant RX1 77 (1000000000)) (by decide +kernel)
  have k_8 := hts (.fieldLink RX1 22 "FlowLedger$Router" "head" "[I") (by decide +kernel)
  have k_9 := hts (.fieldLink RX1 25 "FlowLedger$Router" "weight" "[I") (by decide +kernel)
  have k_10 := hts (.fieldLink RX1 37 "FlowLedger$Router" "entry" "[I") (by decide +kernel)
  have L19 : ∀ (n : Nat) (x1 : Int32) (x3 : Int32) (x2 : Int32) (x4 : Int32) (σ : fl_St) (o2 : Int32) (σo : fl_St) (H : Heap) (locs : List Loc) (ls : Array Slot), f_X1_measure_l19 x1 x3 n x2 x4 σ = some (o2, σo) → gS D (wc ad cz) A s.heap σ H locs → lv_has ls 6 [(0, .ref (ad 2)), (1, .int x1), (2, .int x2), (3, .int x3), (4, .int x4)] → (∀ (H : Heap) (locs : List Loc) (ls : Array Slot), gS D (wc ad cz) A s.heap σo H locs → lv_has ls 6 [(0, .ref (ad 2)), (1, .int x1), (2, .int o2), (3, .int x3)] → W p l e rm_X1_measure s m args below meth c H locs 0 0 Q (F0 m 143 ls [])) → W p l e rm_X1_measure s m args below meth c H locs 0 0 Q (F0 m 19 ls []) := by
    intro n
    induction n with
    | zero =>
      intro x1 x3 x2 x4 σ o2 σo H locs ls h hg hl kk0
      rw [f_X1_measure_l19] at h
      cases h
    | succ n ih =>
      intro x1 x3 x2 x4 σ o2 σo H locs ls h hg hl kk0
      rw [f_X1_measure_l19] at h
      refine lv_iload hx hb dX1_measure_19 (lv_at hl 4 rfl) ?_
      refine lv_iconst (v := (2)) hx hb dX1_measure_21 (by decide) ?_
      refine lv_aload_n hx hb dX1_measure_22 rfl (lv_at hl 0 rfl) ?_
      refine va_get (D := D) (ci := 1) (v := .ref (ad 1)) (C := RX1) (T := TX1) (N := 8) hx hb hts k_1 hown hK.1 hg.1 2 rfl rfl 0 (by decide) k_0 (fun _ h9 => h9) rfl dX1_measure_23 ?_
      refine va_get (D := D) (ci := 0) (v := .int (σ 12 0)) (C := RX0) (T := TX0) (N := 6) hx hb hts k_3 hown hK.1 hg.1 1 rfl rfl 5 (by decide) k_2 (fun _ h9 => h9) rfl dX1_measure_26 ?_
      refine lv_imul hx hb dX1_measure_29 ?_
      refine lv_icmp_ge (tgt := 143) hx hb dX1_measure_30 (by decide) (fun c3 => ?_) (fun c3 => ?_)
      · have h := fl_ifp c3 h
        obtain ⟨rfl, rfl⟩ := fl_s2 h
        exact kk0 H locs ls hg (lv_sub hl [0, 1, 2, 3] rfl)
      · have h := fl_ifn c3 h
        refine lv_aload_n hx hb dX1_measure_33 rfl (lv_at hl 0 rfl) ?_
        refine va_get (D := D) (ci := 1) (v := .ref (ad 11)) (C := RX1) (T := TX1) (N := 8) hx hb hts k_1 hown hK.1 hg.1 2 rfl rfl 4 (by decide) k_4 (fun _ h9 => h9) rfl dX1_measure_34 ?_
        refine lv_iload hx hb dX1_measure_37 (lv_at hl 4 rfl) ?_
        obtain ⟨v4, i5, e6, h⟩ := fl_rd_b h
        refine g_ld (n := 40) (t0 := 8) hx hb hK hg (wc_a8 ad cz _) rfl i5 e6 dX1_measure_39 ?_
        obtain ⟨t8, hB10, h⟩ := fl_bnd h
        have J9 : ∀ (H : Heap) (locs : List Loc) (ls : Array Slot), gS D (wc ad cz) A s.heap σ H locs → lv_has ls 6 [(0, .ref (ad 2)), (1, .int x1), (2, .int x2), (3, .int x3), (4, .int x4)] → W p l e rm_X1_measure s m args below meth c H locs 0 0 Q (F0 m 56 ls [.int t8]) := by
          intro H locs ls hg hl
          refine lv_istore (lv' := [(5, .int t8), (0, .ref (ad 2)), (1, .int x1), (2, .int x2), (3, .int x3), (4, .int x4)]) hx hb dX1_measure_56 hl (by decide) rfl (fun ls hl => ?_)
          refine lv_iload hx hb dX1_measure_58 (lv_at hl 0 rfl) ?_
          obtain ⟨w12, σ13, hB15, h⟩ := fl_b2_b h
          have J14 : ∀ (H : Heap) (locs : List Loc) (ls : Array Slot), gS D (wc ad cz) A s.heap σ13 H locs → lv_has ls 6 [(0, .ref (ad 2)), (1, .int x1), (2, .int w12), (3, .int x3), (4, .int x4)] → W p l e rm_X1_measure s m args below meth c H locs 0 0 Q (F0 m 137 ls []) := by
            intro H locs ls hg hl
            refine lv_iinc (v := (x4 + 1)) (lv' := [(4, .int (x4 + 1)), (0, .ref (ad 2)), (1, .int x1), (2, .int w12), (3, .int x3)]) hx hb dX1_measure_137 hl (k := 4) rfl rfl (by decide) rfl (fun ls hl => ?_)
            refine lv_goto (tgt := 19) hx hb dX1_measure_140 (by decide) ?_
            exact ih _ _ _ _ _ _ _ _ _ _ h hg (lv_sub hl [1, 2, 3, 4, 0] rfl) kk0
          clear h
          have h := hB15
          refine lv_if_eq (tgt := 137) hx hb dX1_measure_60 (by decide) (fun c11 => ?_) (fun c11 => ?_)
          · have h := fl_ifp c11 h
            obtain ⟨rfl, rfl⟩ := fl_s2 h
            exact J14 H locs ls hg (lv_sub hl [1, 2, 3, 4, 5] rfl)
          · have h := fl_ifn c11 h
            refine lv_aload_n hx hb dX1_measure_63 rfl (lv_at hl 1 rfl) ?_
            refine va_get (D := D) (ci := 1) (v := .ref (ad 13)) (C := RX1) (T := TX1) (N := 8) hx hb hts k_1 hown hK.1 hg.1 2 rfl rfl 6 (by decide) k_5 (fun _ h9 => h9) rfl dX1_measure_64 ?_
            refine lv_aload_n hx hb dX1_measure_67 rfl (lv_at hl 1 rfl) ?_
            refine va_get (D := D) (ci := 1) (v := .ref (ad 8)) (C := RX1) (T := TX1) (N := 8) hx hb hts k_1 hown hK.1 hg.1 2 rfl rfl 1 (by decide) k_6 (fun _ h9 => h9) rfl dX1_measure_68 ?_
            refine lv_iload hx hb dX1_measure_71 (lv_at hl 5 rfl) ?_
            obtain ⟨v16, i17, e18, h⟩ := fl_rd_b h
            refine g_ld (n := 40) (t0 := 5) hx hb hK hg (wc_a5 ad cz _) rfl i17 e18 dX1_measure_73 ?_
            obtain ⟨v19, i20, e21, h⟩ := fl_rd_b h
            refine g_ld (n := 8) (t0 := 10) hx hb hK hg (wc_a10 ad cz _) rfl i20 e21 dX1_measure_74 ?_
            refine lv_ldc hx hb hown k_7 dX1_measure_75 ?_
            refine lv_icmp_ge (tgt := 137) hx hb dX1_measure_77 (by decide) (fun c22 => ?_) (fun c22 => ?_)
            · have h := fl_ifp c22 h
              obtain ⟨rfl, rfl⟩ := fl_s2 h
              exact J14 H locs ls hg (lv_sub hl [1, 2, 3, 4, 5] rfl)
            · have h := fl_ifn c22 h
              refine lv_aload_n hx hb dX1_measure_80 rfl (lv_at hl 1 rfl) ?_
              refine lv_iload hx hb dX1_measure_81 (lv_at hl 5 rfl) ?_
              obtain ⟨r24, e23, h⟩ := fl_bnd h
              refine g_callVi (As := [.int x4]) (rest := []) ⟨hx, hb, hml, hown, hts⟩ (c_X1_isShortcut l D ad cz (x4) (σ) e23) (cwV 1 hts gX1_measure_X1_isShortcut rfl rfl rfl (by decide +kernel) ⟨Nat.le_of_ble_eq_true rfl, Nat.le_of_ble_eq_true rfl⟩) (va_recv hK.1 hg.1 (ci := 1) (q0 := 2) rfl rfl) hK hA hg rfl hl.1 rfl (Nat.le_of_ble_eq_true rfl) dX1_measure_83 ⟨Nat.le_of_ble_eq_true rfl, Nat.le_of_ble_eq_true rfl⟩ (fun H locs hg => ?_)
              refine lv_if_eq (tgt := 137) hx hb dX1_measure_86 (by decide) (fun c25 => ?_) (fun c25 => ?_)
              · have h := fl_ifp c25 h
                obtain ⟨rfl, rfl⟩ := fl_s2 h
                exact J14 H locs ls hg (lv_sub hl [1, 2, 3, 4, 5] rfl)
              · have h := fl_ifn c25 h
                refine lv_aload_n hx hb dX1_measure_89 rfl (lv_at hl 1 rfl) ?_
                refine va_get (D := D) (ci := 1) (v := .ref (ad 13)) (C := RX1) (T := TX1) (N := 8) hx hb hts k_1 hown hK.1 hg.1 2 rfl rfl 6 (by decide) k_5 (fun _ h9 => h9) rfl dX1_measure_90 ?_
                refine lv_aload_n hx hb dX1_measure_93 rfl (lv_at hl 1 rfl) ?_
                refine va_get (D := D) (ci := 1) (v := .ref (ad 9)) (C := RX1) (T := TX1) (N := 8) hx hb hts k_1 hown hK.1 hg.1 2 rfl rfl 2 (by decide) k_8 (fun _ h9 => h9) rfl dX1_measure_94 ?_
                refine lv_iload hx hb dX1_measure_97 (lv_at hl 5 rfl) ?_
                obtain ⟨v26, i27, e28, h⟩ := fl_rd_b h
                refine g_ld (n := 40) (t0 := 6) hx hb hK hg (wc_a6 ad cz _) rfl i27 e28 dX1_measure_99 ?_
                refine lv_aload_n hx hb dX1_measure_100 rfl (lv_at hl 1 rfl) ?_
                refine va_get (D := D) (ci := 1) (v := .ref (ad 13)) (C := RX1) (T := TX1) (N := 8) hx hb hts k_1 hown hK.1 hg.1 2 rfl rfl 6 (by decide) k_5 (fun _ h9 => h9) rfl dX1_measure_101 ?_
                refine lv_aload_n hx hb dX1_measure_104 rfl (lv_at hl 1 rfl) ?_
                refine va_get (D := D) (ci := 1) (v := .ref (ad 8)) (C := RX1) (T := TX1) (N := 8) hx hb hts k_1 hown hK.1 hg.1 2 rfl rfl 1 (by decide) k_6 (fun _ h9 => h9) rfl dX1_measure_105 ?_
                refine lv_iload hx hb dX1_measure_108 (lv_at hl 5 rfl) ?_
                obtain ⟨v29, i30, e31, h⟩ := fl_rd_b h
                refine g_ld (n := 40) (t0 := 5) hx hb hK hg (wc_a5 ad cz _) rfl i30 e31 dX1_measure_110 ?_
                obtain ⟨v32, i33, e34, h⟩ := fl_rd_b h
                refine g_ld (n := 8) (t0 := 10) hx hb hK hg (wc_a10 ad cz _) rfl i33 e34 dX1_measure_111 ?_
                refine lv_aload_n hx hb dX1_measure_112 rfl (lv_at hl 1 rfl) ?_
                refine va_get (D := D) (ci := 1) (v := .ref (ad 10)) (C := RX1) (T := TX1) (N := 8) hx hb hts k_1 hown hK.1 hg.1 2 rfl rfl 3 (by decide) k_9 (fun _ h9 => h9) rfl dX1_measure_113 ?_
                refine lv_iload hx hb dX1_measure_116 (lv_at hl 5 rfl) ?_
                obtain ⟨v35, i36, e37, h⟩ := fl_rd_b h
                refine g_ld (n := 40) (t0 := 7) hx hb hK hg (wc_a7 ad cz _) rfl i36 e37 dX1_measure_118 ?_
                refine lv_iadd hx hb dX1_measure_119 ?_
                obtain ⟨σ38, i39, e40, h⟩ := fl_wr_b h
                refine g_st (n := 8) (t0 := 10) hx hb hK hg (wc_a10 ad cz _) (wc_s10 ad cz _) rfl i39 e40 dX1_measure_120 (fun H locs hg => ?_)
                refine lv_aload_n hx hb dX1_measure_121 rfl (lv_at hl 1 rfl) ?_
                refine va_get (D := D) (ci := 1) (v := .ref (ad 14)) (C := RX1) (T := TX1) (N := 8) hx hb hts k_1 hown hK.1 hg.1 2 rfl rfl 7 (by decide) k_10 (fun _ h9 => h9) rfl dX1_measure_122 ?_
                refine lv_aload_n hx hb dX1_measure_125 rfl (lv_at hl 1 rfl) ?_
                refine va_get (D := D) (ci := 1) (v := .ref (ad 9)) (C := RX1) (T := TX1) (N := 8) hx hb hts k_1 hown hK.1 hg.1 2 rfl rfl 2 (by decide) k_8 (fun _ h9 => h9) rfl dX1_measure_126 ?_
                refine lv_iload hx hb dX1_measure_129 (lv_at hl 5 rfl) ?_
                obtain ⟨v41, i42, e43, h⟩ := fl_rd_b h
                refine g_ld (n := 40) (t0 := 6) hx hb hK hg (wc_a6 ad cz _) rfl i42 e43 dX1_measure_131 ?_
                refine lv_iload hx hb dX1_measure_132 (lv_at hl 5 rfl) ?_
                obtain ⟨σ44, i45, e46, h⟩ := fl_wr_b h
                refine g_st (n := 8) (t0 := 11) hx hb hK hg (wc_a11 ad cz _) (wc_s11 ad cz _) rfl i45 e46 dX1_measure_134 (fun H locs hg => ?_)
                refine lv_iconst (v := (1)) hx hb dX1_measure_135 (by decide) ?_
                refine lv_istore_n (lv' := [(2, .int (1)), (5, .int t8), (0, .ref (ad 2)), (1, .int x1), (3, .int x3), (4, .int x4)]) hx hb dX1_measure_136 rfl hl (by decide) rfl (fun ls hl => ?_)
                obtain ⟨rfl, rfl⟩ := fl_s2 h
                exact J14 H locs ls hg (lv_sub hl [2, 3, 0, 4, 5] rfl)
        clear h
        have h := hB10
        refine lv_if_le (tgt := 55) hx hb dX1_measure_40 (by decide) (fun c7 => ?_) (fun c7 => ?_)
        · have h := fl_ifp c7 h
          refine lv_iconst (v := (0)) hx hb dX1_measure_55 (by decide) ?_
          obtain rfl := fl_s1 h
          exact J9 H locs ls hg (lv_sub hl [0, 1, 2, 3, 4] rfl)
        · have h := fl_ifn c7 h
          refine lv_iload hx hb dX1_measure_43 (lv_at hl 4 rfl) ?_
          refine lv_iconst (v := (1)) hx hb dX1_measure_45 (by decide) ?_
          refine lv_ishr hx hb dX1_measure_46 ?_
          refine lv_iload_n hx hb dX1_measure_47 rfl (lv_at hl 1 rfl) ?_
          refine lv_icmp_eq (tgt := 55) hx hb dX1_measure_48 (by decide) (fun c47 => ?_) (fun c47 => ?_)
          · have h := fl_ifp c47 h
            refine lv_iconst (v := (0)) hx hb dX1_measure_55 (by decide) ?_
            obtain rfl := fl_s1 h
            exact J9 H locs ls hg (lv_sub hl [0, 1, 2, 3, 4] rfl)
          · have h := fl_ifn c47 h
            refine lv_iconst (v := (1)) hx hb dX1_measure_51 (by decide) ?_
            refine lv_goto (tgt := 56) hx hb dX1_measure_52 (by decide) ?_
            obtain rfl := fl_s1 h
            exact J9 H locs ls hg (lv_sub hl [0, 1, 2, 3, 4] rfl)
  have L4 : ∀ (n : Nat) (x1 : Int32) (x2 : Int32) (x3 : Int32) (σ : fl_St) (σo : fl_St) (H : Heap) (locs : List Loc) (ls : Array Slot), f_X1_measure_l4 x1 n x2 x3 σ = some (σo) → gS D (wc ad cz) A s.heap σ H locs → lv_has ls 6 [(0, .ref (ad 2)), (1, .int x1), (2, .int x2), (3, .int x3)] → (∀ (H : Heap) (locs : List Loc) (ls : Array Slot), gS D (wc ad cz) A s.heap σo H locs → lv_has ls 6 [] → W p l e rm_X1_measure s m args below meth c H locs 0 0 Q (F0 m 149 ls [])) → W p l e rm_X1_measure s m args below meth c H locs 0 0 Q (F0 m 4 ls []) := by
    intro n
    induction n with
    | zero =>
      intro x1 x2 x3 σ σo H locs ls h hg hl kk0
      rw [f_X1_measure_l4] at h
      cases h
    | succ n ih =>
      intro x1 x2 x3 σ σo H locs ls h hg hl kk0
      rw [f_X1_measure_l4] at h
      refine lv_iload_n hx hb dX1_measure_4 rfl (lv_at hl 2 rfl) ?_
      refine lv_if_eq (tgt := 149) hx hb dX1_measure_5 (by decide) (fun c1 => ?_) (fun c1 => ?_)
      · have h := fl_ifp c1 h
        obtain rfl := fl_s1 h
        exact kk0 H locs ls hg (lv_sub hl [] rfl)
      · have h := fl_ifn c1 h
        refine lv_iload_n hx hb dX1_measure_8 rfl (lv_at hl 3 rfl) ?_
        refine lv_bipush (v := (8)) hx hb dX1_measure_9 (by decide) ?_
        refine lv_icmp_ge (tgt := 149) hx hb dX1_measure_11 (by decide) (fun c2 => ?_) (fun c2 => ?_)
        · have h := fl_ifp c2 h
          obtain rfl := fl_s1 h
          exact kk0 H locs ls hg (lv_sub hl [] rfl)
        · have h := fl_ifn c2 h
          refine lv_iconst (v := (0)) hx hb dX1_measure_14 (by decide) ?_
          refine lv_istore_n (lv' := [(2, .int (0)), (0, .ref (ad 2)), (1, .int x1), (3, .int x3)]) hx hb dX1_measure_15 rfl hl (by decide) rfl (fun ls hl => ?_)
          refine lv_iconst (v := (0)) hx hb dX1_measure_16 (by decide) ?_
          refine lv_istore (lv' := [(4, .int (0)), (2, .int (0)), (0, .ref (ad 2)), (1, .int x1), (3, .int x3)]) hx hb dX1_measure_17 hl (by decide) rfl (fun ls hl => ?_)
          obtain ⟨w48, σ49, hB50, h⟩ := fl_b2_b h
          refine L19 fl_N _ _ _ _ _ _ _ H locs ls hB50 hg (lv_sub hl [2, 3, 1, 4, 0] rfl) (fun H locs ls hg hl => ?_)
          refine lv_iinc (v := (x3 + 1)) (lv' := [(3, .int (x3 + 1)), (0, .ref (ad 2)), (1, .int x1), (2, .int w48)]) hx hb dX1_measure_143 hl (k := 3) rfl rfl (by decide) rfl (fun ls hl => ?_)
          refine lv_goto (tgt := 4) hx hb dX1_measure_146 (by decide) ?_
          exact ih _ _ _ _ _ _ _ _ h hg (lv_sub hl [1, 2, 3, 0] rfl) kk0
  unfold f_X1_measure at h
  have W0 : ∀ (H : Heap) (locs : List Loc), gS D (wc ad cz) A s.heap σ H locs → W p l e rm_X1_measure s m args below meth c H locs 0 0 Q (F0 m 0 ls []) := by
    intro H locs hg
    refine lv_iconst (v := (1)) hx hb dX1_measure_0 (by decide) ?_
    refine lv_istore_n (lv' := [(2, .int (1)), (0, .ref (ad 2)), (1, .int x1)]) hx hb dX1_measure_1 rfl hl (by decide) rfl (fun ls hl => ?_)
    refine lv_iconst (v := (0)) hx hb dX1_measure_2 (by decide) ?_
    refine lv_istore_n (lv' := [(3, .int (0)), (2, .int (1)), (0, .ref (ad 2)), (1, .int x1)]) hx hb dX1_measure_3 rfl hl (by decide) rfl (fun ls hl => ?_)
    obtain ⟨σ51, hB52, h⟩ := fl_bnd h
    refine L4 fl_N _ _ _ _ _ H locs ls hB52 hg (lv_sub hl [2, 3, 1, 0] rfl) (fun H locs ls hg hl => ?_)
    exact hret _ _ _ _ _ h hg dX1_measure_149
  exact W0 _ _ hg
def f_X1_startAtExcess_l2 : Nat → Int32 → fl_St → Option (fl_St)
  | 0, _, _ => none
  | n + 1, x1, σ => if (8) ≤ x1 then (some (σ)) else ((fl_rd σ 9 8 x1).bind fun v2 => (if v2 ≤ 0 then (some ((0))) else (some ((1)))).bind fun (t6 : Int32) => (f_X1_setStart x1 t6 σ).bind fun σ10 => f_X1_startAtExcess_l2 n (x1 + 1) σ10)
def f_X1_startAtExcess (σ : fl_St) : Option (fl_St) := (f_X1_startAtExcess_l2 fl_N (0) σ).bind fun (σ11 : fl_St) => some σ11
def rm_X1_startAtExcess : Room := { frames := 1, cells := 0, slots := 0, locals := 22 }
set_option maxHeartbeats 4000000 in
set_option maxRecDepth 100000 in
theorem c_X1_startAtExcess (l : Launch) (D : va_G) (ad : Nat → Nat) (cz : Nat → ClassId) (σ : fl_St) {σ' : fl_St} (h : f_X1_startAtExcess σ = some σ') : gMv l yX1_startAtExcess wsX1_startAtExcess rm_X1_startAtExcess D (wc ad cz) (wcT cz) wcN [.ref (ad 2)] σ σ' := by
  refine gMv_of (cc := cX1_startAtExcess) (maxL := 2) (by decide) rfl (Nat.le_of_ble_eq_true rfl) ?_
  intro p e s m args below meth c A Q ls hx hb hml hown hts hK hA hg hl hret
  have hown : s.vm.findClass RX1 = some m.cls := hown
  have hl : lv_has ls 2 [(0, .ref (ad 2))] := hl
  have k_0 := hts (.fieldLink RX1 31 "FlowLedger$Router" "excess" "[I") (by decide +kernel)
  have k_1 := (by decide +kernel : ∀ w ∈ wsX10, w ∈ wsX1_startAtExcess)
  have L2 : ∀ (n : Nat) (x1 : Int32) (σ : fl_St) (σo : fl_St) (H : Heap) (locs : List Loc) (ls : Array Slot), f_X1_startAtExcess_l2 n x1 σ = some (σo) → gS D (wc ad cz) A s.heap σ H locs → lv_has ls 2 [(0, .ref (ad 2)), (1, .int x1)] → (∀ (H : Heap) (locs : List Loc) (ls : Array Slot), gS D (wc ad cz) A s.heap σo H locs → lv_has ls 2 [] → W p l e rm_X1_startAtExcess s m args below meth c H locs 0 0 Q (F0 m 33 ls [])) → W p l e rm_X1_startAtExcess s m args below meth c H locs 0 0 Q (F0 m 2 ls []) := by
    intro n
    induction n with
    | zero =>
      intro x1 σ σo H locs ls h hg hl kk0
      rw [f_X1_startAtExcess_l2] at h
      cases h
    | succ n ih =>
      intro x1 σ σo H locs ls h hg hl kk0
      rw [f_X1_startAtExcess_l2] at h
      refine lv_iload_n hx hb dX1_startAtExcess_2 rfl (lv_at hl 1 rfl) ?_
      refine lv_bipush (v := (8)) hx hb dX1_startAtExcess_3 (by decide) ?_
      refine lv_icmp_ge (tgt := 33) hx hb dX1_startAtExcess_5 (by decide) (fun c1 => ?_) (fun c1 => ?_)
      · have h := fl_ifp c1 h
        obtain rfl := fl_s1 h
        exact kk0 H locs ls hg (lv_sub hl [] rfl)
      · have h := fl_ifn c1 h
        refine lv_aload_n hx hb dX1_startAtExcess_8 rfl (lv_at hl 0 rfl) ?_
        refine lv_iload_n hx hb dX1_startAtExcess_9 rfl (lv_at hl 1 rfl) ?_
        refine lv_aload_n hx hb dX1_startAtExcess_10 rfl (lv_at hl 0 rfl) ?_
        refine va_get (D := D) (ci := 1) (v := .ref (ad 12)) (C := RX1) (T := TX1) (N := 8) hx hb hts k_1 hown hK.1 hg.1 2 rfl rfl 5 (by decide) k_0 (fun _ h9 => h9) rfl dX1_startAtExcess_11 ?_
        refine lv_iload_n hx hb dX1_startAtExcess_14 rfl (lv_at hl 1 rfl) ?_
        obtain ⟨v2, i3, e4, h⟩ := fl_rd_b h
        refine g_ld (n := 8) (t0 := 9) hx hb hK hg (wc_a9 ad cz _) rfl i3 e4 dX1_startAtExcess_15 ?_
        obtain ⟨t6, hB8, h⟩ := fl_bnd h
        have J7 : ∀ (H : Heap) (locs : List Loc) (ls : Array Slot), gS D (wc ad cz) A s.heap σ H locs → lv_has ls 2 [(0, .ref (ad 2)), (1, .int x1)] → W p l e rm_X1_startAtExcess s m args below meth c H locs 0 0 Q (F0 m 24 ls [.int t6, .int x1, .ref (ad 2)]) := by
          intro H locs ls hg hl
          obtain ⟨σ10, e9, h⟩ := fl_bnd h
          refine g_callVv (As := [.int x1, .int t6]) (rest := []) ⟨hx, hb, hml, hown, hts⟩ (c_X1_setStart l D ad cz (x1) (t6) (σ) e9) (cwV 2 hts gX1_startAtExcess_X1_setStart rfl rfl rfl (by decide +kernel) ⟨Nat.le_of_ble_eq_true rfl, Nat.le_of_ble_eq_true rfl⟩) (va_recv hK.1 hg.1 (ci := 1) (q0 := 2) rfl rfl) hK hA hg rfl hl.1 rfl (Nat.le_of_ble_eq_true rfl) dX1_startAtExcess_24 ⟨Nat.le_of_ble_eq_true rfl, Nat.le_of_ble_eq_true rfl⟩ (fun H locs hg => ?_)
          refine lv_iinc (v := (x1 + 1)) (lv' := [(1, .int (x1 + 1)), (0, .ref (ad 2))]) hx hb dX1_startAtExcess_27 hl (k := 1) rfl rfl (by decide) rfl (fun ls hl => ?_)
          refine lv_goto (tgt := 2) hx hb dX1_startAtExcess_30 (by decide) ?_
          exact ih _ _ _ _ _ _ h hg (lv_sub hl [1, 0] rfl) kk0
        clear h
        have h := hB8
        refine lv_if_le (tgt := 23) hx hb dX1_startAtExcess_16 (by decide) (fun c5 => ?_) (fun c5 => ?_)
        · have h := fl_ifp c5 h
          refine lv_iconst (v := (0)) hx hb dX1_startAtExcess_23 (by decide) ?_
          obtain rfl := fl_s1 h
          exact J7 H locs ls hg (lv_sub hl [0, 1] rfl)
        · have h := fl_ifn c5 h
          refine lv_iconst (v := (1)) hx hb dX1_startAtExcess_19 (by decide) ?_
          refine lv_goto (tgt := 24) hx hb dX1_startAtExcess_20 (by decide) ?_
          obtain rfl := fl_s1 h
          exact J7 H locs ls hg (lv_sub hl [0, 1] rfl)
  unfold f_X1_startAtExcess at h
  have W0 : ∀ (H : Heap) (locs : List Loc), gS D (wc ad cz) A s.heap σ H locs → W p l e rm_X1_startAtExcess s m args below meth c H locs 0 0 Q (F0 m 0 ls []) := by
    intro H locs hg
    refine lv_iconst (v := (0)) hx hb dX1_startAtExcess_0 (by decide) ?_
    refine lv_istore_n (lv' := [(1, .int (0)), (0, .ref (ad 2))]) hx hb dX1_startAtExcess_1 rfl hl (by decide) rfl (fun ls hl => ?_)
    obtain ⟨σ11, hB12, h⟩ := fl_bnd h
    refine L2 fl_N _ _ _ H locs ls hB12 hg (lv_sub hl [1, 0] rfl) (fun H locs ls hg hl => ?_)
    exact hret _ _ _ _ _ h hg dX1_startAtExcess_33
  exact W0 _ _ hg
def f_X1_nearestShortNode_l7 (σ : fl_St) : Nat → Int32 → Int32 → Int32 → Option (Int32)
  | 0, _, _, _ => none
  | n + 1, x1, x2, x3 => if (8) ≤ x3 then (some (x1)) else ((fl_rd σ 9 8 x3).bind fun v2 => fl_b2 (if 0 ≤ v2 then (some (x1, x2)) else ((fl_rd σ 10 8 x3).bind fun v10 => if x2 ≤ v10 then (some (x1, x2)) else ((fl_rd σ 10 8 x3).bind fun v14 => some (x3, v14)))) fun (w6 : Int32) (w7 : Int32) => f_X1_nearestShortNode_l7 σ n w6 w7 (x3 + 1))
def f_X1_nearestShortNode (σ : fl_St) : Option (Int32) := (f_X1_nearestShortNode_l7 σ fl_N (-1) (1000000000) (0)).bind fun (w17 : Int32) => some w17
def rm_X1_nearestShortNode : Room := { frames := 0, cells := 0, slots := 0, locals := 0 }
set_option maxHeartbeats 4000000 in
set_option maxRecDepth 100000 in
theorem c_X1_nearestShortNode (l : Launch) (D : va_G) (ad : Nat → Nat) (cz : Nat → ClassId) (σ : fl_St) {r : Int32} (h : f_X1_nearestShortNode σ = some r) : gMi l yX1_nearestShortNode wsX1_nearestShortNode rm_X1_nearestShortNode D (wc ad cz) (wcT cz) wcN [.ref (ad 2)] σ r σ := by
  refine gMi_of (cc := cX1_nearestShortNode) (maxL := 4) (by decide) rfl (Nat.le_of_ble_eq_true rfl) ?_
  intro p e s m args below meth c A Q ls hx hb hml hown hts hK hA hg hl hret
  have hown : s.vm.findClass RX1 = some m.cls := hown
  have hl : lv_has ls 4 [(0, .ref (ad 2))] := hl
  have k_0 := hts (.constant RX1 77 (1000000000)) (by decide +kernel)
  have k_1 := hts (.fieldLink RX1 31 "FlowLedger$Router" "excess" "[I") (by decide +kernel)
  have k_2 := (by decide +kernel : ∀ w ∈ wsX10, w ∈ wsX1_nearestShortNode)
  have k_3 := hts (.fieldLink RX1 34 "FlowLedger$Router" "distance" "[I") (by decide +kernel)
  have L7 : ∀ (n : Nat) (σ : fl_St) (x1 : Int32) (x2 : Int32) (x3 : Int32) (o1 : Int32) (H : Heap) (locs : List Loc) (ls : Array Slot), f_X1_nearestShortNode_l7 σ n x1 x2 x3 = some (o1) → gS D (wc ad cz) A s.heap σ H locs → lv_has ls 4 [(0, .ref (ad 2)), (1, .int x1), (2, .int x2), (3, .int x3)] → (∀ (H : Heap) (locs : List Loc) (ls : Array Slot), gS D (wc ad cz) A s.heap σ H locs → lv_has ls 4 [(1, .int o1)] → W p l e rm_X1_nearestShortNode s m args below meth c H locs 0 0 Q (F0 m 47 ls [])) → W p l e rm_X1_nearestShortNode s m args below meth c H locs 0 0 Q (F0 m 7 ls []) := by
    intro n
    induction n with
    | zero =>
      intro σ x1 x2 x3 o1 H locs ls h hg hl kk0
      rw [f_X1_nearestShortNode_l7] at h
      cases h
    | succ n ih =>
      intro σ x1 x2 x3 o1 H locs ls h hg hl kk0
      rw [f_X1_nearestShortNode_l7] at h
      refine lv_iload_n hx hb dX1_nearestShortNode_7 rfl (lv_at hl 3 rfl) ?_
      refine lv_bipush (v := (8)) hx hb dX1_nearestShortNode_8 (by decide) ?_
      refine lv_icmp_ge (tgt := 47) hx hb dX1_nearestShortNode_10 (by decide) (fun c1 => ?_) (fun c1 => ?_)
      · have h := fl_ifp c1 h
        obtain rfl := fl_s1 h
        exact kk0 H locs ls hg (lv_sub hl [1] rfl)
      · have h := fl_ifn c1 h
        refine lv_aload_n hx hb dX1_nearestShortNode_13 rfl (lv_at hl 0 rfl) ?_
        refine va_get (D := D) (ci := 1) (v := .ref (ad 12)) (C := RX1) (T := TX1) (N := 8) hx hb hts k_2 hown hK.1 hg.1 2 rfl rfl 5 (by decide) k_1 (fun _ h9 => h9) rfl dX1_nearestShortNode_14 ?_
        refine lv_iload_n hx hb dX1_nearestShortNode_17 rfl (lv_at hl 3 rfl) ?_
        obtain ⟨v2, i3, e4, h⟩ := fl_rd_b h
        refine g_ld (n := 8) (t0 := 9) hx hb hK hg (wc_a9 ad cz _) rfl i3 e4 dX1_nearestShortNode_18 ?_
        obtain ⟨w6, w7, hB9, h⟩ := fl_b2_b h
        have J8 : ∀ (H : Heap) (locs : List Loc) (ls : Array Slot), gS D (wc ad cz) A s.heap σ H locs → lv_has ls 4 [(0, .ref (ad 2)), (1, .int w6), (2, .int w7), (3, .int x3)] → W p l e rm_X1_nearestShortNode s m args below meth c H locs 0 0 Q (F0 m 41 ls []) := by
          intro H locs ls hg hl
          refine lv_iinc (v := (x3 + 1)) (lv' := [(3, .int (x3 + 1)), (0, .ref (ad 2)), (1, .int w6), (2, .int w7)]) hx hb dX1_nearestShortNode_41 hl (k := 3) rfl rfl (by decide) rfl (fun ls hl => ?_)
          refine lv_goto (tgt := 7) hx hb dX1_nearestShortNode_44 (by decide) ?_
          exact ih _ _ _ _ _ _ _ _ h hg (lv_sub hl [1, 2, 3, 0] rfl) kk0
        clear h
        have h := hB9
        refine lv_if_ge (tgt := 41) hx hb dX1_nearestShortNode_19 (by decide) (fun c5 => ?_) (fun c5 => ?_)
        · have h := fl_ifp c5 h
          obtain ⟨rfl, rfl⟩ := fl_s2 h
          exact J8 H locs ls hg (lv_sub hl [0, 1, 2, 3] rfl)
        · have h := fl_ifn c5 h
          refine lv_aload_n hx hb dX1_nearestShortNode_22 rfl (lv_at hl 0 rfl) ?_
          refine va_get (D := D) (ci := 1) (v := .ref (ad 13)) (C := RX1) (T := TX1) (N := 8) hx hb hts k_2 hown hK.1 hg.1 2 rfl rfl 6 (by decide) k_3 (fun _ h9 => h9) rfl dX1_nearestShortNode_23 ?_
          refine lv_iload_n hx hb dX1_nearestShortNode_26 rfl (lv_at hl 3 rfl) ?_
          obtain ⟨v10, i11, e12, h⟩ := fl_rd_b h
          refine g_ld (n := 8) (t0 := 10) hx hb hK hg (wc_a10 ad cz _) rfl i11 e12 dX1_nearestShortNode_27 ?_
          refine lv_iload_n hx hb dX1_nearestShortNode_28 rfl (lv_at hl 2 rfl) ?_
          refine lv_icmp_ge (tgt := 41) hx hb dX1_nearestShortNode_29 (by decide) (fun c13 => ?_) (fun c13 => ?_)
          · have h := fl_ifp c13 h
            obtain ⟨rfl, rfl⟩ := fl_s2 h
            exact J8 H locs ls hg (lv_sub hl [0, 1, 2, 3] rfl)
          · have h := fl_ifn c13 h
            refine lv_iload_n hx hb dX1_nearestShortNode_32 rfl (lv_at hl 3 rfl) ?_
            refine lv_istore_n (lv' := [(1, .int x3), (0, .ref (ad 2)), (2, .int x2), (3, .int x3)]) hx hb dX1_nearestShortNode_33 rfl hl (by decide) rfl (fun ls hl => ?_)
            refine lv_aload_n hx hb dX1_nearestShortNode_34 rfl (lv_at hl 1 rfl) ?_
            refine va_get (D := D) (ci := 1) (v := .ref (ad 13)) (C := RX1) (T := TX1) (N := 8) hx hb hts k_2 hown hK.1 hg.1 2 rfl rfl 6 (by decide) k_3 (fun _ h9 => h9) rfl dX1_nearestShortNode_35 ?_
            refine lv_iload_n hx hb dX1_nearestShortNode_38 rfl (lv_at hl 3 rfl) ?_
            obtain ⟨v14, i15, e16, h⟩ := fl_rd_b h
            refine g_ld (n := 8) (t0 := 10) hx hb hK hg (wc_a10 ad cz _) rfl i15 e16 dX1_nearestShortNode_39 ?_
            refine lv_istore_n (lv' := [(2, .int v14), (1, .int x3), (0, .ref (ad 2)), (3, .int x3)]) hx hb dX1_nearestShortNode_40 rfl hl (by decide) rfl (fun ls hl => ?_)
            obtain ⟨rfl, rfl⟩ := fl_s2 h
            exact J8 H locs ls hg (lv_sub hl [2, 1, 0, 3] rfl)
  unfold f_X1_nearestShortNode at h
  have W0 : ∀ (H : Heap) (locs : List Loc), gS D (wc ad cz) A s.heap σ H locs → W p l e rm_X1_nearestShortNode s m args below meth c H locs 0 0 Q (F0 m 0 ls []) := by
    intro H locs hg
    refine lv_iconst (v := (-1)) hx hb dX1_nearestShortNode_0 (by decide) ?_
    refine lv_istore_n (lv' := [(1, .int (-1)), (0, .ref (ad 2))]) hx hb dX1_nearestShortNode_1 rfl hl (by decide) rfl (fun ls hl => ?_)
    refine lv_ldc hx hb hown k_0 dX1_nearestShortNode_2 ?_
    refine lv_istore_n (lv' := [(2, .int (1000000000)), (1, .int (-1)), (0, .ref (ad 2))]) hx hb dX1_nearestShortNode_4 rfl hl (by decide) rfl (fun ls hl => ?_)
    refine lv_iconst (v := (0)) hx hb dX1_nearestShortNode_5 (by decide) ?_
    refine lv_istore_n (lv' := [(3, .int (0)), (2, .int (1000000000)), (1, .int (-1)), (0, .ref (ad 2))]) hx hb dX1_nearestShortNode_6 rfl hl (by decide) rfl (fun ls hl => ?_)
    obtain ⟨w17, hB18, h⟩ := fl_bnd h
    refine L7 fl_N _ _ _ _ _ H locs ls hB18 hg (lv_sub hl [3, 2, 1, 0] rfl) (fun H locs ls hg hl => ?_)
    refine lv_iload_n hx hb dX1_nearestShortNode_47 rfl (lv_at hl 0 rfl) ?_
    exact hret _ _ _ _ _ _ (congrArg (Option.map (fun q => (q, σ))) h) hg rfl dX1_nearestShortNode_48
  exact W0 _ _ hg
def f_X1_sendAlongPath_l5 (x2 : Int32) : Nat → Int32 → Int32 → fl_St → Option (fl_St)
  | 0, _, _, _ => none
  | n + 1, x3, x4, σ => if (8) ≤ x4 then (some (σ)) else ((fl_rd σ 11 8 x3).bind fun v2 => if v2 = (-1) then (some (σ)) else ((fl_rd σ 11 8 x3).bind fun v6 => (fl_rd σ 8 40 v6).bind fun v9 => (fl_wr σ 8 40 v6 (v9 - x2)).bind fun σ12 => (fl_rd σ12 8 40 (v6 ^^^ (1))).bind fun v15 => (fl_wr σ12 8 40 (v6 ^^^ (1)) (v15 + x2)).bind fun σ18 => (fl_rd σ18 5 40 v6).bind fun v21 => f_X1_sendAlongPath_l5 x2 n v21 (x4 + 1) σ18))
def f_X1_sendAlongPath (x1 : Int32) (x2 : Int32) (σ : fl_St) : Option (fl_St) := (f_X1_sendAlongPath_l5 x2 fl_N x1 (0) σ).bind fun (σ24 : fl_St) => some σ24
def rm_X1_sendAlongPath : Room := { frames := 0, cells := 0, slots := 0, locals := 0 }
set_option maxHeartbeats 4000000 in
set_option maxRecDepth 100000 in
theorem c_X1_sendAlongPath (l : Launch) (D : va_G) (ad : Nat → Nat) (cz : Nat → ClassId) (x1 : Int32) (x2 : Int32) (σ : fl_St) {σ' : fl_St} (h : f_X1_sendAlongPath x1 x2 σ = some σ') : gMv l yX1_sendAlongPath wsX1_sendAlongPath rm_X1_sendAlongPath D (wc ad cz) (wcT cz) wcN [.ref (ad 2), .int x1, .int x2] σ σ' := by
  refine gMv_of (cc := cX1_sendAlongPath) (maxL := 6) (by decide) rfl (Nat.le_of_ble_eq_true rfl) ?_
  intro p e s m args below meth c A Q ls hx hb hml hown hts hK hA hg hl hret
  have hown : s.vm.findClass RX1 = some m.cls := hown
  have hl : lv_has ls 6 [(0, .ref (ad 2)), (1, .int x1), (2, .int x2)] := hl
  have k_0 := hts (.fieldLink RX1 37 "FlowLedger$Router" "entry" "[I") (by decide +kernel)
  have k_1 := (by decide +kernel : ∀ w ∈ wsX10, w ∈ wsX1_sendAlongPath)
  have k_2 := hts (.fieldLink RX1 28 "FlowLedger$Router" "room" "[I") (by decide +kernel)
  have k_3 := hts (.fieldLink RX1 18 "FlowLedger$Router" "tail" "[I") (by decide +kernel)
  have L5 : ∀ (n : Nat) (x2 : Int32) (x3 : Int32) (x4 : Int32) (σ : fl_St) (σo : fl_St) (H : Heap) (locs : List Loc) (ls : Array Slot), f_X1_sendAlongPath_l5 x2 n x3 x4 σ = some (σo) → gS D (wc ad cz) A s.heap σ H locs → lv_has ls 6 [(0, .ref (ad 2)), (2, .int x2), (3, .int x3), (4, .int x4)] → (∀ (H : Heap) (locs : List Loc) (ls : Array Slot), gS D (wc ad cz) A s.heap σo H locs → lv_has ls 6 [] → W p l e rm_X1_sendAlongPath s m args below meth c H locs 0 0 Q (F0 m 68 ls [])) → W p l e rm_X1_sendAlongPath s m args below meth c H locs 0 0 Q (F0 m 5 ls []) := by
    intro n
    induction n with
    | zero =>
      intro x2 x3 x4 σ σo H locs ls h hg hl kk0
      rw [f_X1_sendAlongPath_l5] at h
      cases h
    | succ n ih =>
      intro x2 x3 x4 σ σo H locs ls h hg hl kk0
      rw [f_X1_sendAlongPath_l5] at h
      refine lv_iload hx hb dX1_sendAlongPath_5 (lv_at hl 3 rfl) ?_
      refine lv_bipush (v := (8)) hx hb dX1_sendAlongPath_7 (by decide) ?_
      refine lv_icmp_ge (tgt := 68) hx hb dX1_sendAlongPath_9 (by decide) (fun c1 => ?_) (fun c1 => ?_)
      · have h := fl_ifp c1 h
        obtain rfl := fl_s1 h
        exact kk0 H locs ls hg (lv_sub hl [] rfl)
      · have h := fl_ifn c1 h
        refine lv_aload_n hx hb dX1_sendAlongPath_12 rfl (lv_at hl 0 rfl) ?_
        refine va_get (D := D) (ci := 1) (v := .ref (ad 14)) (C := RX1) (T := TX1) (N := 8) hx hb hts k_1 hown hK.1 hg.1 2 rfl rfl 7 (by decide) k_0 (fun _ h9 => h9) rfl dX1_sendAlongPath_13 ?_
        refine lv_iload_n hx hb dX1_sendAlongPath_16 rfl (lv_at hl 2 rfl) ?_
        obtain ⟨v2, i3, e4, h⟩ := fl_rd_b h
        refine g_ld (n := 8) (t0 := 11) hx hb hK hg (wc_a11 ad cz _) rfl i3 e4 dX1_sendAlongPath_17 ?_
        refine lv_iconst (v := (-1)) hx hb dX1_sendAlongPath_18 (by decide) ?_
        refine lv_icmp_eq (tgt := 68) hx hb dX1_sendAlongPath_19 (by decide) (fun c5 => ?_) (fun c5 => ?_)
        · have h := fl_ifp c5 h
          obtain rfl := fl_s1 h
          exact kk0 H locs ls hg (lv_sub hl [] rfl)
        · have h := fl_ifn c5 h
          refine lv_aload_n hx hb dX1_sendAlongPath_22 rfl (lv_at hl 0 rfl) ?_
          refine va_get (D := D) (ci := 1) (v := .ref (ad 14)) (C := RX1) (T := TX1) (N := 8) hx hb hts k_1 hown hK.1 hg.1 2 rfl rfl 7 (by decide) k_0 (fun _ h9 => h9) rfl dX1_sendAlongPath_23 ?_
          refine lv_iload_n hx hb dX1_sendAlongPath_26 rfl (lv_at hl 2 rfl) ?_
          obtain ⟨v6, i7, e8, h⟩ := fl_rd_b h
          refine g_ld (n := 8) (t0 := 11) hx hb hK hg (wc_a11 ad cz _) rfl i7 e8 dX1_sendAlongPath_27 ?_
          refine lv_istore (lv' := [(5, .int v6), (0, .ref (ad 2)), (2, .int x2), (3, .int x3), (4, .int x4)]) hx hb dX1_sendAlongPath_28 hl (by decide) rfl (fun ls hl => ?_)
          refine lv_aload_n hx hb dX1_sendAlongPath_30 rfl (lv_at hl 1 rfl) ?_
          refine va_get (D := D) (ci := 1) (v := .ref (ad 11)) (C := RX1) (T := TX1) (N := 8) hx hb hts k_1 hown hK.1 hg.1 2 rfl rfl 4 (by decide) k_2 (fun _ h9 => h9) rfl dX1_sendAlongPath_31 ?_
          refine lv_iload hx hb dX1_sendAlongPath_34 (lv_at hl 0 rfl) ?_
          refine lv_dup2_11 hx hb dX1_sendAlongPath_36 rfl rfl ?_
          obtain ⟨v9, i10, e11, h⟩ := fl_rd_b h
          refine g_ld (n := 40) (t0 := 8) hx hb hK hg (wc_a8 ad cz _) rfl i10 e11 dX1_sendAlongPath_37 ?_
          refine lv_iload_n hx hb dX1_sendAlongPath_38 rfl (lv_at hl 2 rfl) ?_
          refine lv_isub hx hb dX1_sendAlongPath_39 ?_
          obtain ⟨σ12, i13, e14, h⟩ := fl_wr_b h
          refine g_st (n := 40) (t0 := 8) hx hb hK hg (wc_a8 ad cz _) (wc_s8 ad cz _) rfl i13 e14 dX1_sendAlongPath_40 (fun H locs hg => ?_)
          refine lv_aload_n hx hb dX1_sendAlongPath_41 rfl (lv_at hl 1 rfl) ?_
          refine va_get (D := D) (ci := 1) (v := .ref (ad 11)) (C := RX1) (T := TX1) (N := 8) hx hb hts k_1 hown hK.1 hg.1 2 rfl rfl 4 (by decide) k_2 (fun _ h9 => h9) rfl dX1_sendAlongPath_42 ?_
          refine lv_iload hx hb dX1_sendAlongPath_45 (lv_at hl 0 rfl) ?_
          refine lv_iconst (v := (1)) hx hb dX1_sendAlongPath_47 (by decide) ?_
          refine lv_ixor hx hb dX1_sendAlongPath_48 ?_
          refine lv_dup2_11 hx hb dX1_sendAlongPath_49 rfl rfl ?_
          obtain ⟨v15, i16, e17, h⟩ := fl_rd_b h
          refine g_ld (n := 40) (t0 := 8) hx hb hK hg (wc_a8 ad cz _) rfl i16 e17 dX1_sendAlongPath_50 ?_
          refine lv_iload_n hx hb dX1_sendAlongPath_51 rfl (lv_at hl 2 rfl) ?_
          refine lv_iadd hx hb dX1_sendAlongPath_52 ?_
          obtain ⟨σ18, i19, e20, h⟩ := fl_wr_b h
          refine g_st (n := 40) (t0 := 8) hx hb hK hg (wc_a8 ad cz _) (wc_s8 ad cz _) rfl i19 e20 dX1_sendAlongPath_53 (fun H locs hg => ?_)
          refine lv_aload_n hx hb dX1_sendAlongPath_54 rfl (lv_at hl 1 rfl) ?_
          refine va_get (D := D) (ci := 1) (v := .ref (ad 8)) (C := RX1) (T := TX1) (N := 8) hx hb hts k_1 hown hK.1 hg.1 2 rfl rfl 1 (by decide) k_3 (fun _ h9 => h9) rfl dX1_sendAlongPath_55 ?_
          refine lv_iload hx hb dX1_sendAlongPath_58 (lv_at hl 0 rfl) ?_
          obtain ⟨v21, i22, e23, h⟩ := fl_rd_b h
          refine g_ld (n := 40) (t0 := 5) hx hb hK hg (wc_a5 ad cz _) rfl i22 e23 dX1_sendAlongPath_60 ?_
          refine lv_istore_n (lv' := [(3, .int v21), (5, .int v6), (0, .ref (ad 2)), (2, .int x2), (4, .int x4)]) hx hb dX1_sendAlongPath_61 rfl hl (by decide) rfl (fun ls hl => ?_)
          refine lv_iinc (v := (x4 + 1)) (lv' := [(4, .int (x4 + 1)), (3, .int v21), (5, .int v6), (0, .ref (ad 2)), (2, .int x2)]) hx hb dX1_sendAlongPath_62 hl (k := 4) rfl rfl (by decide) rfl (fun ls hl => ?_)
          refine lv_goto (tgt := 5) hx hb dX1_sendAlongPath_65 (by decide) ?_
          exact ih _ _ _ _ _ _ _ _ h hg (lv_sub hl [3, 4, 1, 0] rfl) kk0
  unfold f_X1_sendAlongPath at h
  have W0 : ∀ (H : Heap) (locs : List Loc), gS D (wc ad cz) A s.heap σ H locs → W p l e rm_X1_sendAlongPath s m args below meth c H locs 0 0 Q (F0 m 0 ls []) := by
    intro H locs hg
    refine lv_iload_n hx hb dX1_sendAlongPath_0 rfl (lv_at hl 1 rfl) ?_
    refine lv_istore_n (lv' := [(3, .int x1), (0, .ref (ad 2)), (1, .int x1), (2, .int x2)]) hx hb dX1_sendAlongPath_1 rfl hl (by decide) rfl (fun ls hl => ?_)
    refine lv_iconst (v := (0)) hx hb dX1_sendAlongPath_2 (by decide) ?_
    refine lv_istore (lv' := [(4, .int (0)), (3, .int x1), (0, .ref (ad 2)), (1, .int x1), (2, .int x2)]) hx hb dX1_sendAlongPath_3 hl (by decide) rfl (fun ls hl => ?_)
    obtain ⟨σ24, hB25, h⟩ := fl_bnd h
    refine L5 fl_N _ _ _ _ _ H locs ls hB25 hg (lv_sub hl [2, 4, 1, 0] rfl) (fun H locs ls hg hl => ?_)
    exact hret _ _ _ _ _ h hg dX1_sendAlongPath_68
  exact W0 _ _ hg
