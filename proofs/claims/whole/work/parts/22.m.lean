def f_X3_findRound_l2 (x1 : Int32) : Nat → Int32 → fl_St → Option (fl_St)
  | 0, _, _ => none
  | n + 1, x2, σ => if (8) ≤ x2 then (some (σ)) else ((fl_wr σ 8 10 x2 (0)).bind fun σ2 => (fl_wr σ2 9 10 x2 (-1000004)).bind fun σ5 => f_X3_findRound_l2 x1 n (x2 + 1) σ5)
def f_X3_findRound_l46 (x1 : Int32) (x3 : Int32) : Nat → Int32 → Int32 → fl_St → Option (Int32 × fl_St)
  | 0, _, _, _ => none
  | n + 1, x2, x4, σ => if (σ 13 0) ≤ x4 then (some (x2, σ)) else ((if x1 = 0 then ((fl_rd σ 5 36 x4).bind fun v110 => (fl_rd σ 2 36 x4).bind fun v113 => if v113 ≤ v110 then (some ((0))) else (some ((1)))) else ((fl_rd σ 2 36 x4).bind fun v117 => if v117 = (1000000) then (some ((1))) else (some ((0))))).bind fun (t13 : Int32) => fl_b2 (if t13 = 0 then (some (x2, σ)) else ((fl_rd σ 0 36 x4).bind fun v70 => (fl_rd σ 8 10 v70).bind fun v73 => (fl_rd σ 3 36 x4).bind fun v76 => (fl_rd σ 1 36 x4).bind fun v79 => (fl_rd σ 8 10 v79).bind fun v82 => if v82 ≤ (v73 + v76) then (some (x2, σ)) else ((fl_rd σ 1 36 x4).bind fun v86 => (fl_rd σ 0 36 x4).bind fun v89 => (fl_rd σ 8 10 v89).bind fun v92 => (fl_rd σ 3 36 x4).bind fun v95 => (fl_wr σ 8 10 v86 (v92 + v95)).bind fun σ98 => (fl_rd σ98 1 36 x4).bind fun v101 => (fl_wr σ98 9 10 v101 x4).bind fun σ104 => (fl_rd σ104 1 36 x4).bind fun v107 => some (v107, σ104)))) fun (w17 : Int32) (σ18 : fl_St) => fl_b2 (if x1 = 0 then ((fl_rd σ18 5 36 x4).bind fun v26 => if v26 ≤ 0 then (some (w17, σ18)) else ((fl_rd σ18 1 36 x4).bind fun v30 => (fl_rd σ18 8 10 v30).bind fun v33 => (fl_rd σ18 3 36 x4).bind fun v36 => (fl_rd σ18 0 36 x4).bind fun v39 => (fl_rd σ18 8 10 v39).bind fun v42 => if v42 ≤ (v33 - v36) then (some (w17, σ18)) else ((fl_rd σ18 0 36 x4).bind fun v46 => (fl_rd σ18 1 36 x4).bind fun v49 => (fl_rd σ18 8 10 v49).bind fun v52 => (fl_rd σ18 3 36 x4).bind fun v55 => (fl_wr σ18 8 10 v46 (v52 - v55)).bind fun σ58 => (fl_rd σ58 0 36 x4).bind fun v61 => (fl_wr σ58 9 10 v61 ((-1) - x4)).bind fun σ64 => (fl_rd σ64 0 36 x4).bind fun v67 => some (v67, σ64)))) else (some (w17, σ18))) fun (w22 : Int32) (σ23 : fl_St) => f_X3_findRound_l46 x1 x3 n w22 (x4 + 1) σ23)
def f_X3_findRound_l34 (x1 : Int32) : Nat → Int32 → Int32 → fl_St → Option (Int32 × fl_St)
  | 0, _, _, _ => none
  | n + 1, x2, x3, σ => if (8) < x3 then (some (x2, σ)) else (fl_b2 (f_X3_findRound_l46 x1 x3 fl_N (-1000004) (0) σ) fun (w121 : Int32) (σ122 : fl_St) => f_X3_findRound_l34 x1 n w121 (x3 + 1) σ122)
def f_X3_findRound (x1 : Int32) (σ : fl_St) : Option (Int32 × fl_St) := (f_X3_findRound_l2 x1 fl_N (0) σ).bind fun (σ8 : fl_St) => fl_b2 (f_X3_findRound_l34 x1 fl_N (-1000004) (0) σ8) fun (w124 : Int32) (σ125 : fl_St) => some (w124, σ125)
def rm_X3_findRound : Room := { frames := 0, cells := 0, slots := 0, locals := 0 }
set_option maxHeartbeats 4000000 in
set_option maxRecDepth 100000 in
theorem c_X3_findRound (l : Launch) (D : va_G) (ad : Nat → Nat) (cz : Nat → ClassId) (x1 : Int32) (σ : fl_St) {r : Int32} {σ' : fl_St} (h : f_X3_findRound x1 σ = some (r, σ')) : gMi l yX3_findRound wsX3_findRound rm_X3_findRound D (wm ad cz) (wmT cz) [] [.ref (ad 0), .int x1] σ r σ' := by
  refine gMi_of (cc := cX3_findRound) (maxL := 6) (by decide) rfl (Nat.le_of_ble_eq_true rfl) ?_
  intro p e s m args below meth c A Q ls hx hb hml hown hts hK hA hg hl hret
  have hown : s.vm.findClass RX3 = some m.cls := hown
  have hl : lv_has ls 6 [(0, .ref (ad 0)), (1, .int x1)] := hl
  have k_0 := hts (.fieldLink RX3 35 "FlowLedgerModel" "far" "[I") (by decide +kernel)
  have k_1 := (by decide +kernel : ∀ w ∈ wsX30, w ∈ wsX3_findRound)
  have k_2 := hts (.fieldLink RX3 38 "FlowLedgerModel" "by" "[I") (by decide +kernel)
  have k_3 := hts (.constant RX3 84 (-1000004)) (by decide +kernel)
  have k_4 := hts (.fieldLink RX3 55 "FlowLedgerModel" "arcs" "I") (by decide +kernel)
  have k_5 := hts (.fieldLink RX3 25 "FlowLedgerModel" "flow" "[I") (by decide +kernel)
  have k_6 := hts (.fieldLink RX3 13 "FlowLedgerModel" "tos" "[I") (by decide +kernel)
  have k_7 := hts (.fieldLink RX3 19 "FlowLedgerModel" "costs" "[I") (by decide +kernel)
  have k_8 := hts (.fieldLink RX3 7 "FlowLedgerModel" "froms" "[I") (by decide +kernel)
  have k_9 := hts (.fieldLink RX3 16 "FlowLedgerModel" "capacities" "[I") (by decide +kernel)
  have k_10 := hts (.constant RX3 60 (1000000)) (by decide +kernel)
  have L2 : ∀ (n : Nat) (x1 : Int32) (x2 : Int32) (σ : fl_St) (σo : fl_St) (H : Heap) (locs : List Loc) (ls : Array Slot), f_X3_findRound_l2 x1 n x2 σ = some (σo) → gS D (wm ad cz) A s.heap σ H locs → lv_has ls 6 [(0, .ref (ad 0)), (1, .int x1), (2, .int x2)] → (∀ (H : Heap) (locs : List Loc) (ls : Array Slot), gS D (wm ad cz) A s.heap σo H locs → lv_has ls 6 [(0, .ref (ad 0)), (1, .int x1)] → W p l e rm_X3_findRound s m args below meth c H locs 0 0 Q (F0 m 29 ls [])) → W p l e rm_X3_findRound s m args below meth c H locs 0 0 Q (F0 m 2 ls []) := by
    intro n
    induction n with
    | zero =>
      intro x1 x2 σ σo H locs ls h hg hl kk0
      rw [f_X3_findRound_l2] at h
      cases h
    | succ n ih =>
      intro x1 x2 σ σo H locs ls h hg hl kk0
      rw [f_X3_findRound_l2] at h
      refine lv_iload_n hx hb dX3_findRound_2 rfl (lv_at hl 2 rfl) ?_
      refine lv_bipush (v := (8)) hx hb dX3_findRound_3 (by decide) ?_
      refine lv_icmp_ge (tgt := 29) hx hb dX3_findRound_5 (by decide) (fun c1 => ?_) (fun c1 => ?_)
      · have h := fl_ifp c1 h
        obtain rfl := fl_s1 h
        exact kk0 H locs ls hg (lv_sub hl [0, 1] rfl)
      · have h := fl_ifn c1 h
        refine lv_aload_n hx hb dX3_findRound_8 rfl (lv_at hl 0 rfl) ?_
        refine va_get (D := D) (ci := 3) (v := .ref (ad 9)) (C := RX3) (T := TX3) (N := 16) hx hb hts k_1 hown hK.1 hg.1 0 rfl rfl 10 (by decide) k_0 (fun _ h9 => h9) rfl dX3_findRound_9 ?_
        refine lv_iload_n hx hb dX3_findRound_12 rfl (lv_at hl 2 rfl) ?_
        refine lv_iconst (v := (0)) hx hb dX3_findRound_13 (by decide) ?_
        obtain ⟨σ2, i3, e4, h⟩ := fl_wr_b h
        refine g_st (n := 10) (t0 := 8) hx hb hK hg (wm_a8 ad cz _) (wm_s8 ad cz _) rfl i3 e4 dX3_findRound_14 (fun H locs hg => ?_)
        refine lv_aload_n hx hb dX3_findRound_15 rfl (lv_at hl 0 rfl) ?_
        refine va_get (D := D) (ci := 3) (v := .ref (ad 10)) (C := RX3) (T := TX3) (N := 16) hx hb hts k_1 hown hK.1 hg.1 0 rfl rfl 11 (by decide) k_2 (fun _ h9 => h9) rfl dX3_findRound_16 ?_
        refine lv_iload_n hx hb dX3_findRound_19 rfl (lv_at hl 2 rfl) ?_
        refine lv_ldc hx hb hown k_3 dX3_findRound_20 ?_
        obtain ⟨σ5, i6, e7, h⟩ := fl_wr_b h
        refine g_st (n := 10) (t0 := 9) hx hb hK hg (wm_a9 ad cz _) (wm_s9 ad cz _) rfl i6 e7 dX3_findRound_22 (fun H locs hg => ?_)
        refine lv_iinc (v := (x2 + 1)) (lv' := [(2, .int (x2 + 1)), (0, .ref (ad 0)), (1, .int x1)]) hx hb dX3_findRound_23 hl (k := 2) rfl rfl (by decide) rfl (fun ls hl => ?_)
        refine lv_goto (tgt := 2) hx hb dX3_findRound_26 (by decide) ?_
        exact ih _ _ _ _ _ _ _ h hg (lv_sub hl [1, 2, 0] rfl) kk0
  have L46 : ∀ (n : Nat) (x1 : Int32) (x3 : Int32) (x2 : Int32) (x4 : Int32) (σ : fl_St) (o2 : Int32) (σo : fl_St) (H : Heap) (locs : List Loc) (ls : Array Slot), f_X3_findRound_l46 x1 x3 n x2 x4 σ = some (o2, σo) → gS D (wm ad cz) A s.heap σ H locs → lv_has ls 6 [(0, .ref (ad 0)), (1, .int x1), (2, .int x2), (3, .int x3), (4, .int x4)] → (∀ (H : Heap) (locs : List Loc) (ls : Array Slot), gS D (wm ad cz) A s.heap σo H locs → lv_has ls 6 [(0, .ref (ad 0)), (1, .int x1), (2, .int o2), (3, .int x3)] → W p l e rm_X3_findRound s m args below meth c H locs 0 0 Q (F0 m 308 ls [])) → W p l e rm_X3_findRound s m args below meth c H locs 0 0 Q (F0 m 46 ls []) := by
    intro n
    induction n with
    | zero =>
      intro x1 x3 x2 x4 σ o2 σo H locs ls h hg hl kk0
      rw [f_X3_findRound_l46] at h
      cases h
    | succ n ih =>
      intro x1 x3 x2 x4 σ o2 σo H locs ls h hg hl kk0
      rw [f_X3_findRound_l46] at h
      refine lv_iload hx hb dX3_findRound_46 (lv_at hl 4 rfl) ?_
      refine lv_aload_n hx hb dX3_findRound_48 rfl (lv_at hl 0 rfl) ?_
      refine va_get (D := D) (ci := 3) (v := .int (σ 13 0)) (C := RX3) (T := TX3) (N := 16) hx hb hts k_1 hown hK.1 hg.1 0 rfl rfl 0 (by decide) k_4 (fun _ h9 => h9) rfl dX3_findRound_49 ?_
      refine lv_icmp_ge (tgt := 308) hx hb dX3_findRound_52 (by decide) (fun c11 => ?_) (fun c11 => ?_)
      · have h := fl_ifp c11 h
        obtain ⟨rfl, rfl⟩ := fl_s2 h
        exact kk0 H locs ls hg (lv_sub hl [0, 1, 2, 3] rfl)
      · have h := fl_ifn c11 h
        refine lv_iload_n hx hb dX3_findRound_55 rfl (lv_at hl 1 rfl) ?_
        obtain ⟨t13, hB15, h⟩ := fl_bnd h
        have J14 : ∀ (H : Heap) (locs : List Loc) (ls : Array Slot), gS D (wm ad cz) A s.heap σ H locs → lv_has ls 6 [(0, .ref (ad 0)), (1, .int x1), (2, .int x2), (3, .int x3), (4, .int x4)] → W p l e rm_X3_findRound s m args below meth c H locs 0 0 Q (F0 m 101 ls [.int t13]) := by
          intro H locs ls hg hl
          refine lv_istore (lv' := [(5, .int t13), (0, .ref (ad 0)), (1, .int x1), (2, .int x2), (3, .int x3), (4, .int x4)]) hx hb dX3_findRound_101 hl (by decide) rfl (fun ls hl => ?_)
          refine lv_iload hx hb dX3_findRound_103 (lv_at hl 0 rfl) ?_
          obtain ⟨w17, σ18, hB20, h⟩ := fl_b2_b h
          have J19 : ∀ (H : Heap) (locs : List Loc) (ls : Array Slot), gS D (wm ad cz) A s.heap σ18 H locs → lv_has ls 6 [(0, .ref (ad 0)), (1, .int x1), (2, .int w17), (3, .int x3), (4, .int x4)] → W p l e rm_X3_findRound s m args below meth c H locs 0 0 Q (F0 m 197 ls []) := by
            intro H locs ls hg hl
            refine lv_iload_n hx hb dX3_findRound_197 rfl (lv_at hl 1 rfl) ?_
            obtain ⟨w22, σ23, hB25, h⟩ := fl_b2_b h
            have J24 : ∀ (H : Heap) (locs : List Loc) (ls : Array Slot), gS D (wm ad cz) A s.heap σ23 H locs → lv_has ls 6 [(0, .ref (ad 0)), (1, .int x1), (2, .int w22), (3, .int x3), (4, .int x4)] → W p l e rm_X3_findRound s m args below meth c H locs 0 0 Q (F0 m 302 ls []) := by
              intro H locs ls hg hl
              refine lv_iinc (v := (x4 + 1)) (lv' := [(4, .int (x4 + 1)), (0, .ref (ad 0)), (1, .int x1), (2, .int w22), (3, .int x3)]) hx hb dX3_findRound_302 hl (k := 4) rfl rfl (by decide) rfl (fun ls hl => ?_)
              refine lv_goto (tgt := 46) hx hb dX3_findRound_305 (by decide) ?_
              exact ih _ _ _ _ _ _ _ _ _ _ h hg (lv_sub hl [1, 2, 3, 4, 0] rfl) kk0
            clear h
            have h := hB25
            refine lv_if_ne (tgt := 302) hx hb dX3_findRound_198 (by decide) (fun c21 => ?_) (fun c21 => ?_)
            · have h := fl_ifn c21 h
              obtain ⟨rfl, rfl⟩ := fl_s2 h
              exact J24 H locs ls hg (lv_sub hl [0, 1, 2, 3, 4] rfl)
            · have h := fl_ifp c21 h
              refine lv_aload_n hx hb dX3_findRound_201 rfl (lv_at hl 0 rfl) ?_
              refine va_get (D := D) (ci := 3) (v := .ref (ad 6)) (C := RX3) (T := TX3) (N := 16) hx hb hts k_1 hown hK.1 hg.1 0 rfl rfl 6 (by decide) k_5 (fun _ h9 => h9) rfl dX3_findRound_202 ?_
              refine lv_iload hx hb dX3_findRound_205 (lv_at hl 4 rfl) ?_
              obtain ⟨v26, i27, e28, h⟩ := fl_rd_b h
              refine g_ld (n := 36) (t0 := 5) hx hb hK hg (wm_a5 ad cz _) rfl i27 e28 dX3_findRound_207 ?_
              refine lv_if_le (tgt := 302) hx hb dX3_findRound_208 (by decide) (fun c29 => ?_) (fun c29 => ?_)
              · have h := fl_ifp c29 h
                obtain ⟨rfl, rfl⟩ := fl_s2 h
                exact J24 H locs ls hg (lv_sub hl [0, 1, 2, 3, 4] rfl)
              · have h := fl_ifn c29 h
                refine lv_aload_n hx hb dX3_findRound_211 rfl (lv_at hl 0 rfl) ?_
                refine va_get (D := D) (ci := 3) (v := .ref (ad 9)) (C := RX3) (T := TX3) (N := 16) hx hb hts k_1 hown hK.1 hg.1 0 rfl rfl 10 (by decide) k_0 (fun _ h9 => h9) rfl dX3_findRound_212 ?_
                refine lv_aload_n hx hb dX3_findRound_215 rfl (lv_at hl 0 rfl) ?_
                refine va_get (D := D) (ci := 3) (v := .ref (ad 2)) (C := RX3) (T := TX3) (N := 16) hx hb hts k_1 hown hK.1 hg.1 0 rfl rfl 2 (by decide) k_6 (fun _ h9 => h9) rfl dX3_findRound_216 ?_
                refine lv_iload hx hb dX3_findRound_219 (lv_at hl 4 rfl) ?_
                obtain ⟨v30, i31, e32, h⟩ := fl_rd_b h
                refine g_ld (n := 36) (t0 := 1) hx hb hK hg (wm_a1 ad cz _) rfl i31 e32 dX3_findRound_221 ?_
                obtain ⟨v33, i34, e35, h⟩ := fl_rd_b h
                refine g_ld (n := 10) (t0 := 8) hx hb hK hg (wm_a8 ad cz _) rfl i34 e35 dX3_findRound_222 ?_
                refine lv_aload_n hx hb dX3_findRound_223 rfl (lv_at hl 0 rfl) ?_
                refine va_get (D := D) (ci := 3) (v := .ref (ad 4)) (C := RX3) (T := TX3) (N := 16) hx hb hts k_1 hown hK.1 hg.1 0 rfl rfl 4 (by decide) k_7 (fun _ h9 => h9) rfl dX3_findRound_224 ?_
                refine lv_iload hx hb dX3_findRound_227 (lv_at hl 4 rfl) ?_
                obtain ⟨v36, i37, e38, h⟩ := fl_rd_b h
                refine g_ld (n := 36) (t0 := 3) hx hb hK hg (wm_a3 ad cz _) rfl i37 e38 dX3_findRound_229 ?_
                refine lv_isub hx hb dX3_findRound_230 ?_
                refine lv_aload_n hx hb dX3_findRound_231 rfl (lv_at hl 0 rfl) ?_
                refine va_get (D := D) (ci := 3) (v := .ref (ad 9)) (C := RX3) (T := TX3) (N := 16) hx hb hts k_1 hown hK.1 hg.1 0 rfl rfl 10 (by decide) k_0 (fun _ h9 => h9) rfl dX3_findRound_232 ?_
                refine lv_aload_n hx hb dX3_findRound_235 rfl (lv_at hl 0 rfl) ?_
                refine va_get (D := D) (ci := 3) (v := .ref (ad 1)) (C := RX3) (T := TX3) (N := 16) hx hb hts k_1 hown hK.1 hg.1 0 rfl rfl 1 (by decide) k_8 (fun _ h9 => h9) rfl dX3_findRound_236 ?_
                refine lv_iload hx hb dX3_findRound_239 (lv_at hl 4 rfl) ?_
                obtain ⟨v39, i40, e41, h⟩ := fl_rd_b h
                refine g_ld (n := 36) (t0 := 0) hx hb hK hg (wm_a0 ad cz _) rfl i40 e41 dX3_findRound_241 ?_
                obtain ⟨v42, i43, e44, h⟩ := fl_rd_b h
                refine g_ld (n := 10) (t0 := 8) hx hb hK hg (wm_a8 ad cz _) rfl i43 e44 dX3_findRound_242 ?_
                refine lv_icmp_ge (tgt := 302) hx hb dX3_findRound_243 (by decide) (fun c45 => ?_) (fun c45 => ?_)
                · have h := fl_ifp c45 h
                  obtain ⟨rfl, rfl⟩ := fl_s2 h
                  exact J24 H locs ls hg (lv_sub hl [0, 1, 2, 3, 4] rfl)
                · have h := fl_ifn c45 h
                  refine lv_aload_n hx hb dX3_findRound_246 rfl (lv_at hl 0 rfl) ?_
                  refine va_get (D := D) (ci := 3) (v := .ref (ad 9)) (C := RX3) (T := TX3) (N := 16) hx hb hts k_1 hown hK.1 hg.1 0 rfl rfl 10 (by decide) k_0 (fun _ h9 => h9) rfl dX3_findRound_247 ?_
                  refine lv_aload_n hx hb dX3_findRound_250 rfl (lv_at hl 0 rfl) ?_
                  refine va_get (D := D) (ci := 3) (v := .ref (ad 1)) (C := RX3) (T := TX3) (N := 16) hx hb hts k_1 hown hK.1 hg.1 0 rfl rfl 1 (by decide) k_8 (fun _ h9 => h9) rfl dX3_findRound_251 ?_
                  refine lv_iload hx hb dX3_findRound_254 (lv_at hl 4 rfl) ?_
                  obtain ⟨v46, i47, e48, h⟩ := fl_rd_b h
                  refine g_ld (n := 36) (t0 := 0) hx hb hK hg (wm_a0 ad cz _) rfl i47 e48 dX3_findRound_256 ?_
                  refine lv_aload_n hx hb dX3_findRound_257 rfl (lv_at hl 0 rfl) ?_
                  refine va_get (D := D) (ci := 3) (v := .ref (ad 9)) (C := RX3) (T := TX3) (N := 16) hx hb hts k_1 hown hK.1 hg.1 0 rfl rfl 10 (by decide) k_0 (fun _ h9 => h9) rfl dX3_findRound_258 ?_
                  refine lv_aload_n hx hb dX3_findRound_261 rfl (lv_at hl 0 rfl) ?_
                  refine va_get (D := D) (ci := 3) (v := .ref (ad 2)) (C := RX3) (T := TX3) (N := 16) hx hb hts k_1 hown hK.1 hg.1 0 rfl rfl 2 (by decide) k_6 (fun _ h9 => h9) rfl dX3_findRound_262 ?_
                  refine lv_iload hx hb dX3_findRound_265 (lv_at hl 4 rfl) ?_
                  obtain ⟨v49, i50, e51, h⟩ := fl_rd_b h
                  refine g_ld (n := 36) (t0 := 1) hx hb hK hg (wm_a1 ad cz _) rfl i50 e51 dX3_findRound_267 ?_
                  obtain ⟨v52, i53, e54, h⟩ := fl_rd_b h
                  refine g_ld (n := 10) (t0 := 8) hx hb hK hg (wm_a8 ad cz _) rfl i53 e54 dX3_findRound_268 ?_
                  refine lv_aload_n hx hb dX3_findRound_269 rfl (lv_at hl 0 rfl) ?_
                  refine va_get (D := D) (ci := 3) (v := .ref (ad 4)) (C := RX3) (T := TX3) (N := 16) hx hb hts k_1 hown hK.1 hg.1 0 rfl rfl 4 (by decide) k_7 (fun _ h9 => h9) rfl dX3_findRound_270 ?_
                  refine lv_iload hx hb dX3_findRound_273 (lv_at hl 4 rfl) ?_
                  obtain ⟨v55, i56, e57, h⟩ := fl_rd_b h
                  refine g_ld (n := 36) (t0 := 3) hx hb hK hg (wm_a3 ad cz _) rfl i56 e57 dX3_findRound_275 ?_
                  refine lv_isub hx hb dX3_findRound_276 ?_
                  obtain ⟨σ58, i59, e60, h⟩ := fl_wr_b h
                  refine g_st (n := 10) (t0 := 8) hx hb hK hg (wm_a8 ad cz _) (wm_s8 ad cz _) rfl i59 e60 dX3_findRound_277 (fun H locs hg => ?_)
                  refine lv_aload_n hx hb dX3_findRound_278 rfl (lv_at hl 0 rfl) ?_
                  refine va_get (D := D) (ci := 3) (v := .ref (ad 10)) (C := RX3) (T := TX3) (N := 16) hx hb hts k_1 hown hK.1 hg.1 0 rfl rfl 11 (by decide) k_2 (fun _ h9 => h9) rfl dX3_findRound_279 ?_
                  refine lv_aload_n hx hb dX3_findRound_282 rfl (lv_at hl 0 rfl) ?_
                  refine va_get (D := D) (ci := 3) (v := .ref (ad 1)) (C := RX3) (T := TX3) (N := 16) hx hb hts k_1 hown hK.1 hg.1 0 rfl rfl 1 (by decide) k_8 (fun _ h9 => h9) rfl dX3_findRound_283 ?_
                  refine lv_iload hx hb dX3_findRound_286 (lv_at hl 4 rfl) ?_
                  obtain ⟨v61, i62, e63, h⟩ := fl_rd_b h
                  refine g_ld (n := 36) (t0 := 0) hx hb hK hg (wm_a0 ad cz _) rfl i62 e63 dX3_findRound_288 ?_
                  refine lv_iconst (v := (-1)) hx hb dX3_findRound_289 (by decide) ?_
                  refine lv_iload hx hb dX3_findRound_290 (lv_at hl 4 rfl) ?_
                  refine lv_isub hx hb dX3_findRound_292 ?_
                  obtain ⟨σ64, i65, e66, h⟩ := fl_wr_b h
                  refine g_st (n := 10) (t0 := 9) hx hb hK hg (wm_a9 ad cz _) (wm_s9 ad cz _) rfl i65 e66 dX3_findRound_293 (fun H locs hg => ?_)
                  refine lv_aload_n hx hb dX3_findRound_294 rfl (lv_at hl 0 rfl) ?_
                  refine va_get (D := D) (ci := 3) (v := .ref (ad 1)) (C := RX3) (T := TX3) (N := 16) hx hb hts k_1 hown hK.1 hg.1 0 rfl rfl 1 (by decide) k_8 (fun _ h9 => h9) rfl dX3_findRound_295 ?_
                  refine lv_iload hx hb dX3_findRound_298 (lv_at hl 4 rfl) ?_
                  obtain ⟨v67, i68, e69, h⟩ := fl_rd_b h
                  refine g_ld (n := 36) (t0 := 0) hx hb hK hg (wm_a0 ad cz _) rfl i68 e69 dX3_findRound_300 ?_
                  refine lv_istore_n (lv' := [(2, .int v67), (0, .ref (ad 0)), (1, .int x1), (3, .int x3), (4, .int x4)]) hx hb dX3_findRound_301 rfl hl (by decide) rfl (fun ls hl => ?_)
                  obtain ⟨rfl, rfl⟩ := fl_s2 h
                  exact J24 H locs ls hg (lv_sub hl [1, 2, 0, 3, 4] rfl)
          clear h
          have h := hB20
          refine lv_if_eq (tgt := 197) hx hb dX3_findRound_105 (by decide) (fun c16 => ?_) (fun c16 => ?_)
          · have h := fl_ifp c16 h
            obtain ⟨rfl, rfl⟩ := fl_s2 h
            exact J19 H locs ls hg (lv_sub hl [1, 2, 3, 4, 5] rfl)
          · have h := fl_ifn c16 h
            refine lv_aload_n hx hb dX3_findRound_108 rfl (lv_at hl 1 rfl) ?_
            refine va_get (D := D) (ci := 3) (v := .ref (ad 9)) (C := RX3) (T := TX3) (N := 16) hx hb hts k_1 hown hK.1 hg.1 0 rfl rfl 10 (by decide) k_0 (fun _ h9 => h9) rfl dX3_findRound_109 ?_
            refine lv_aload_n hx hb dX3_findRound_112 rfl (lv_at hl 1 rfl) ?_
            refine va_get (D := D) (ci := 3) (v := .ref (ad 1)) (C := RX3) (T := TX3) (N := 16) hx hb hts k_1 hown hK.1 hg.1 0 rfl rfl 1 (by decide) k_8 (fun _ h9 => h9) rfl dX3_findRound_113 ?_
            refine lv_iload hx hb dX3_findRound_116 (lv_at hl 5 rfl) ?_
            obtain ⟨v70, i71, e72, h⟩ := fl_rd_b h
            refine g_ld (n := 36) (t0 := 0) hx hb hK hg (wm_a0 ad cz _) rfl i71 e72 dX3_findRound_118 ?_
            obtain ⟨v73, i74, e75, h⟩ := fl_rd_b h
            refine g_ld (n := 10) (t0 := 8) hx hb hK hg (wm_a8 ad cz _) rfl i74 e75 dX3_findRound_119 ?_
            refine lv_aload_n hx hb dX3_findRound_120 rfl (lv_at hl 1 rfl) ?_
            refine va_get (D := D) (ci := 3) (v := .ref (ad 4)) (C := RX3) (T := TX3) (N := 16) hx hb hts k_1 hown hK.1 hg.1 0 rfl rfl 4 (by decide) k_7 (fun _ h9 => h9) rfl dX3_findRound_121 ?_
            refine lv_iload hx hb dX3_findRound_124 (lv_at hl 5 rfl) ?_
            obtain ⟨v76, i77, e78, h⟩ := fl_rd_b h
            refine g_ld (n := 36) (t0 := 3) hx hb hK hg (wm_a3 ad cz _) rfl i77 e78 dX3_findRound_126 ?_
            refine lv_iadd hx hb dX3_findRound_127 ?_
            refine lv_aload_n hx hb dX3_findRound_128 rfl (lv_at hl 1 rfl) ?_
            refine va_get (D := D) (ci := 3) (v := .ref (ad 9)) (C := RX3) (T := TX3) (N := 16) hx hb hts k_1 hown hK.1 hg.1 0 rfl rfl 10 (by decide) k_0 (fun _ h9 => h9) rfl dX3_findRound_129 ?_
            refine lv_aload_n hx hb dX3_findRound_132 rfl (lv_at hl 1 rfl) ?_
            refine va_get (D := D) (ci := 3) (v := .ref (ad 2)) (C := RX3) (T := TX3) (N := 16) hx hb hts k_1 hown hK.1 hg.1 0 rfl rfl 2 (by decide) k_6 (fun _ h9 => h9) rfl dX3_findRound_133 ?_
            refine lv_iload hx hb dX3_findRound_136 (lv_at hl 5 rfl) ?_
            obtain ⟨v79, i80, e81, h⟩ := fl_rd_b h
            refine g_ld (n := 36) (t0 := 1) hx hb hK hg (wm_a1 ad cz _) rfl i80 e81 dX3_findRound_138 ?_
            obtain ⟨v82, i83, e84, h⟩ := fl_rd_b h
            refine g_ld (n := 10) (t0 := 8) hx hb hK hg (wm_a8 ad cz _) rfl i83 e84 dX3_findRound_139 ?_
            refine lv_icmp_ge (tgt := 197) hx hb dX3_findRound_140 (by decide) (fun c85 => ?_) (fun c85 => ?_)
            · have h := fl_ifp c85 h
              obtain ⟨rfl, rfl⟩ := fl_s2 h
              exact J19 H locs ls hg (lv_sub hl [1, 2, 3, 4, 5] rfl)
            · have h := fl_ifn c85 h
              refine lv_aload_n hx hb dX3_findRound_143 rfl (lv_at hl 1 rfl) ?_
              refine va_get (D := D) (ci := 3) (v := .ref (ad 9)) (C := RX3) (T := TX3) (N := 16) hx hb hts k_1 hown hK.1 hg.1 0 rfl rfl 10 (by decide) k_0 (fun _ h9 => h9) rfl dX3_findRound_144 ?_
              refine lv_aload_n hx hb dX3_findRound_147 rfl (lv_at hl 1 rfl) ?_
              refine va_get (D := D) (ci := 3) (v := .ref (ad 2)) (C := RX3) (T := TX3) (N := 16) hx hb hts k_1 hown hK.1 hg.1 0 rfl rfl 2 (by decide) k_6 (fun _ h9 => h9) rfl dX3_findRound_148 ?_
              refine lv_iload hx hb dX3_findRound_151 (lv_at hl 5 rfl) ?_
              obtain ⟨v86, i87, e88, h⟩ := fl_rd_b h
              refine g_ld (n := 36) (t0 := 1) hx hb hK hg (wm_a1 ad cz _) rfl i87 e88 dX3_findRound_153 ?_
              refine lv_aload_n hx hb dX3_findRound_154 rfl (lv_at hl 1 rfl) ?_
              refine va_get (D := D) (ci := 3) (v := .ref (ad 9)) (C := RX3) (T := TX3) (N := 16) hx hb hts k_1 hown hK.1 hg.1 0 rfl rfl 10 (by decide) k_0 (fun _ h9 => h9) rfl dX3_findRound_155 ?_
              refine lv_aload_n hx hb dX3_findRound_158 rfl (lv_at hl 1 rfl) ?_
              refine va_get (D := D) (ci := 3) (v := .ref (ad 1)) (C := RX3) (T := TX3) (N := 16) hx hb hts k_1 hown hK.1 hg.1 0 rfl rfl 1 (by decide) k_8 (fun _ h9 => h9) rfl dX3_findRound_159 ?_
              refine lv_iload hx hb dX3_findRound_162 (lv_at hl 5 rfl) ?_
              obtain ⟨v89, i90, e91, h⟩ := fl_rd_b h
              refine g_ld (n := 36) (t0 := 0) hx hb hK hg (wm_a0 ad cz _) rfl i90 e91 dX3_findRound_164 ?_
              obtain ⟨v92, i93, e94, h⟩ := fl_rd_b h
              refine g_ld (n := 10) (t0 := 8) hx hb hK hg (wm_a8 ad cz _) rfl i93 e94 dX3_findRound_165 ?_
              refine lv_aload_n hx hb dX3_findRound_166 rfl (lv_at hl 1 rfl) ?_
              refine va_get (D := D) (ci := 3) (v := .ref (ad 4)) (C := RX3) (T := TX3) (N := 16) hx hb hts k_1 hown hK.1 hg.1 0 rfl rfl 4 (by decide) k_7 (fun _ h9 => h9) rfl dX3_findRound_167 ?_
              refine lv_iload hx hb dX3_findRound_170 (lv_at hl 5 rfl) ?_
              obtain ⟨v95, i96, e97, h⟩ := fl_rd_b h
              refine g_ld (n := 36) (t0 := 3) hx hb hK hg (wm_a3 ad cz _) rfl i96 e97 dX3_findRound_172 ?_
              refine lv_iadd hx hb dX3_findRound_173 ?_
              obtain ⟨σ98, i99, e100, h⟩ := fl_wr_b h
              refine g_st (n := 10) (t0 := 8) hx hb hK hg (wm_a8 ad cz _) (wm_s8 ad cz _) rfl i99 e100 dX3_findRound_174 (fun H locs hg => ?_)
              refine lv_aload_n hx hb dX3_findRound_175 rfl (lv_at hl 1 rfl) ?_
              refine va_get (D := D) (ci := 3) (v := .ref (ad 10)) (C := RX3) (T := TX3) (N := 16) hx hb hts k_1 hown hK.1 hg.1 0 rfl rfl 11 (by decide) k_2 (fun _ h9 => h9) rfl dX3_findRound_176 ?_
              refine lv_aload_n hx hb dX3_findRound_179 rfl (lv_at hl 1 rfl) ?_
              refine va_get (D := D) (ci := 3) (v := .ref (ad 2)) (C := RX3) (T := TX3) (N := 16) hx hb hts k_1 hown hK.1 hg.1 0 rfl rfl 2 (by decide) k_6 (fun _ h9 => h9) rfl dX3_findRound_180 ?_
              refine lv_iload hx hb dX3_findRound_183 (lv_at hl 5 rfl) ?_
              obtain ⟨v101, i102, e103, h⟩ := fl_rd_b h
              refine g_ld (n := 36) (t0 := 1) hx hb hK hg (wm_a1 ad cz _) rfl i102 e103 dX3_findRound_185 ?_
              refine lv_iload hx hb dX3_findRound_186 (lv_at hl 5 rfl) ?_
              obtain ⟨σ104, i105, e106, h⟩ := fl_wr_b h
              refine g_st (n := 10) (t0 := 9) hx hb hK hg (wm_a9 ad cz _) (wm_s9 ad cz _) rfl i105 e106 dX3_findRound_188 (fun H locs hg => ?_)
              refine lv_aload_n hx hb dX3_findRound_189 rfl (lv_at hl 1 rfl) ?_
              refine va_get (D := D) (ci := 3) (v := .ref (ad 2)) (C := RX3) (T := TX3) (N := 16) hx hb hts k_1 hown hK.1 hg.1 0 rfl rfl 2 (by decide) k_6 (fun _ h9 => h9) rfl dX3_findRound_190 ?_
              refine lv_iload hx hb dX3_findRound_193 (lv_at hl 5 rfl) ?_
              obtain ⟨v107, i108, e109, h⟩ := fl_rd_b h
              refine g_ld (n := 36) (t0 := 1) hx hb hK hg (wm_a1 ad cz _) rfl i108 e109 dX3_findRound_195 ?_
              refine lv_istore_n (lv' := [(2, .int v107), (5, .int t13), (0, .ref (ad 0)), (1, .int x1), (3, .int x3), (4, .int x4)]) hx hb dX3_findRound_196 rfl hl (by decide) rfl (fun ls hl => ?_)
              obtain ⟨rfl, rfl⟩ := fl_s2 h
              exact J19 H locs ls hg (lv_sub hl [2, 3, 0, 4, 5] rfl)
        clear h
        have h := hB15
        refine lv_if_eq (tgt := 79) hx hb dX3_findRound_56 (by decide) (fun c12 => ?_) (fun c12 => ?_)
        · have h := fl_ifp c12 h
          refine lv_aload_n hx hb dX3_findRound_79 rfl (lv_at hl 0 rfl) ?_
          refine va_get (D := D) (ci := 3) (v := .ref (ad 6)) (C := RX3) (T := TX3) (N := 16) hx hb hts k_1 hown hK.1 hg.1 0 rfl rfl 6 (by decide) k_5 (fun _ h9 => h9) rfl dX3_findRound_80 ?_
          refine lv_iload hx hb dX3_findRound_83 (lv_at hl 4 rfl) ?_
          obtain ⟨v110, i111, e112, h⟩ := fl_rd_b h
          refine g_ld (n := 36) (t0 := 5) hx hb hK hg (wm_a5 ad cz _) rfl i111 e112 dX3_findRound_85 ?_
          refine lv_aload_n hx hb dX3_findRound_86 rfl (lv_at hl 0 rfl) ?_
          refine va_get (D := D) (ci := 3) (v := .ref (ad 3)) (C := RX3) (T := TX3) (N := 16) hx hb hts k_1 hown hK.1 hg.1 0 rfl rfl 3 (by decide) k_9 (fun _ h9 => h9) rfl dX3_findRound_87 ?_
          refine lv_iload hx hb dX3_findRound_90 (lv_at hl 4 rfl) ?_
          obtain ⟨v113, i114, e115, h⟩ := fl_rd_b h
          refine g_ld (n := 36) (t0 := 2) hx hb hK hg (wm_a2 ad cz _) rfl i114 e115 dX3_findRound_92 ?_
          refine lv_icmp_ge (tgt := 100) hx hb dX3_findRound_93 (by decide) (fun c116 => ?_) (fun c116 => ?_)
          · have h := fl_ifp c116 h
            refine lv_iconst (v := (0)) hx hb dX3_findRound_100 (by decide) ?_
            obtain rfl := fl_s1 h
            exact J14 H locs ls hg (lv_sub hl [0, 1, 2, 3, 4] rfl)
          · have h := fl_ifn c116 h
            refine lv_iconst (v := (1)) hx hb dX3_findRound_96 (by decide) ?_
            refine lv_goto (tgt := 101) hx hb dX3_findRound_97 (by decide) ?_
            obtain rfl := fl_s1 h
            exact J14 H locs ls hg (lv_sub hl [0, 1, 2, 3, 4] rfl)
        · have h := fl_ifn c12 h
          refine lv_aload_n hx hb dX3_findRound_59 rfl (lv_at hl 0 rfl) ?_
          refine va_get (D := D) (ci := 3) (v := .ref (ad 3)) (C := RX3) (T := TX3) (N := 16) hx hb hts k_1 hown hK.1 hg.1 0 rfl rfl 3 (by decide) k_9 (fun _ h9 => h9) rfl dX3_findRound_60 ?_
          refine lv_iload hx hb dX3_findRound_63 (lv_at hl 4 rfl) ?_
          obtain ⟨v117, i118, e119, h⟩ := fl_rd_b h
          refine g_ld (n := 36) (t0 := 2) hx hb hK hg (wm_a2 ad cz _) rfl i118 e119 dX3_findRound_65 ?_
          refine lv_ldc hx hb hown k_10 dX3_findRound_66 ?_
          refine lv_icmp_ne (tgt := 75) hx hb dX3_findRound_68 (by decide) (fun c120 => ?_) (fun c120 => ?_)
          · have h := fl_ifn c120 h
            refine lv_iconst (v := (0)) hx hb dX3_findRound_75 (by decide) ?_
            refine lv_goto (tgt := 101) hx hb dX3_findRound_76 (by decide) ?_
            obtain rfl := fl_s1 h
            exact J14 H locs ls hg (lv_sub hl [0, 1, 2, 3, 4] rfl)
          · have h := fl_ifp c120 h
            refine lv_iconst (v := (1)) hx hb dX3_findRound_71 (by decide) ?_
            refine lv_goto (tgt := 101) hx hb dX3_findRound_72 (by decide) ?_
            obtain rfl := fl_s1 h
            exact J14 H locs ls hg (lv_sub hl [0, 1, 2, 3, 4] rfl)
  have L34 : ∀ (n : Nat) (x1 : Int32) (x2 : Int32) (x3 : Int32) (σ : fl_St) (o2 : Int32) (σo : fl_St) (H : Heap) (locs : List Loc) (ls : Array Slot), f_X3_findRound_l34 x1 n x2 x3 σ = some (o2, σo) → gS D (wm ad cz) A s.heap σ H locs → lv_has ls 6 [(0, .ref (ad 0)), (1, .int x1), (2, .int x2), (3, .int x3)] → (∀ (H : Heap) (locs : List Loc) (ls : Array Slot), gS D (wm ad cz) A s.heap σo H locs → lv_has ls 6 [(2, .int o2)] → W p l e rm_X3_findRound s m args below meth c H locs 0 0 Q (F0 m 314 ls [])) → W p l e rm_X3_findRound s m args below meth c H locs 0 0 Q (F0 m 34 ls []) := by
    intro n
    induction n with
    | zero =>
      intro x1 x2 x3 σ o2 σo H locs ls h hg hl kk0
      rw [f_X3_findRound_l34] at h
      cases h
    | succ n ih =>
      intro x1 x2 x3 σ o2 σo H locs ls h hg hl kk0
      rw [f_X3_findRound_l34] at h
      refine lv_iload_n hx hb dX3_findRound_34 rfl (lv_at hl 3 rfl) ?_
      refine lv_bipush (v := (8)) hx hb dX3_findRound_35 (by decide) ?_
      refine lv_icmp_gt (tgt := 314) hx hb dX3_findRound_37 (by decide) (fun c10 => ?_) (fun c10 => ?_)
      · have h := fl_ifp c10 h
        obtain ⟨rfl, rfl⟩ := fl_s2 h
        exact kk0 H locs ls hg (lv_sub hl [2] rfl)
      · have h := fl_ifn c10 h
        refine lv_ldc hx hb hown k_3 dX3_findRound_40 ?_
        refine lv_istore_n (lv' := [(2, .int (-1000004)), (0, .ref (ad 0)), (1, .int x1), (3, .int x3)]) hx hb dX3_findRound_42 rfl hl (by decide) rfl (fun ls hl => ?_)
        refine lv_iconst (v := (0)) hx hb dX3_findRound_43 (by decide) ?_
        refine lv_istore (lv' := [(4, .int (0)), (2, .int (-1000004)), (0, .ref (ad 0)), (1, .int x1), (3, .int x3)]) hx hb dX3_findRound_44 hl (by decide) rfl (fun ls hl => ?_)
        obtain ⟨w121, σ122, hB123, h⟩ := fl_b2_b h
        refine L46 fl_N _ _ _ _ _ _ _ H locs ls hB123 hg (lv_sub hl [2, 3, 1, 4, 0] rfl) (fun H locs ls hg hl => ?_)
        refine lv_iinc (v := (x3 + 1)) (lv' := [(3, .int (x3 + 1)), (0, .ref (ad 0)), (1, .int x1), (2, .int w121)]) hx hb dX3_findRound_308 hl (k := 3) rfl rfl (by decide) rfl (fun ls hl => ?_)
        refine lv_goto (tgt := 34) hx hb dX3_findRound_311 (by decide) ?_
        exact ih _ _ _ _ _ _ _ _ _ h hg (lv_sub hl [1, 2, 3, 0] rfl) kk0
  unfold f_X3_findRound at h
  have W0 : ∀ (H : Heap) (locs : List Loc), gS D (wm ad cz) A s.heap σ H locs → W p l e rm_X3_findRound s m args below meth c H locs 0 0 Q (F0 m 0 ls []) := by
    intro H locs hg
    refine lv_iconst (v := (0)) hx hb dX3_findRound_0 (by decide) ?_
    refine lv_istore_n (lv' := [(2, .int (0)), (0, .ref (ad 0)), (1, .int x1)]) hx hb dX3_findRound_1 rfl hl (by decide) rfl (fun ls hl => ?_)
    obtain ⟨σ8, hB9, h⟩ := fl_bnd h
    refine L2 fl_N _ _ _ _ H locs ls hB9 hg (lv_sub hl [1, 2, 0] rfl) (fun H locs ls hg hl => ?_)
    refine lv_ldc hx hb hown k_3 dX3_findRound_29 ?_
    refine lv_istore_n (lv' := [(2, .int (-1000004)), (0, .ref (ad 0)), (1, .int x1)]) hx hb dX3_findRound_31 rfl hl (by decide) rfl (fun ls hl => ?_)
    refine lv_iconst (v := (0)) hx hb dX3_findRound_32 (by decide) ?_
    refine lv_istore_n (lv' := [(3, .int (0)), (2, .int (-1000004)), (0, .ref (ad 0)), (1, .int x1)]) hx hb dX3_findRound_33 rfl hl (by decide) rfl (fun ls hl => ?_)
    obtain ⟨w124, σ125, hB126, h⟩ := fl_b2_b h
    refine L34 fl_N _ _ _ _ _ _ H locs ls hB126 hg (lv_sub hl [2, 3, 1, 0] rfl) (fun H locs ls hg hl => ?_)
    refine lv_iload_n hx hb dX3_findRound_314 rfl (lv_at hl 0 rfl) ?_
    exact hret _ _ _ _ _ _ h hg rfl dX3_findRound_315
  exact W0 _ _ hg
def f_X3_before (x1 : Int32) (σ : fl_St) : Option (Int32) := (fl_rd σ 9 10 x1).bind fun v1 => (if v1 < 0 then ((fl_rd σ 1 36 ((-1) - v1)).bind fun v8 => some (v8)) else ((fl_rd σ 0 36 v1).bind fun v11 => some (v11))).bind fun (t5 : Int32) => some t5
def rm_X3_before : Room := { frames := 0, cells := 0, slots := 0, locals := 0 }
set_option maxHeartbeats 4000000 in
set_option maxRecDepth 100000 in
theorem c_X3_before (l : Launch) (D : va_G) (ad : Nat → Nat) (cz : Nat → ClassId) (x1 : Int32) (σ : fl_St) {r : Int32} (h : f_X3_before x1 σ = some r) : gMi l yX3_before wsX3_before rm_X3_before D (wm ad cz) (wmT cz) [] [.ref (ad 0), .int x1] σ r σ := by
  refine gMi_of (cc := cX3_before) (maxL := 3) (by decide) rfl (Nat.le_of_ble_eq_true rfl) ?_
  intro p e s m args below meth c A Q ls hx hb hml hown hts hK hA hg hl hret
  have hown : s.vm.findClass RX3 = some m.cls := hown
  have hl : lv_has ls 3 [(0, .ref (ad 0)), (1, .int x1)] := hl
  have k_0 := hts (.fieldLink RX3 38 "FlowLedgerModel" "by" "[I") (by decide +kernel)
  have k_1 := (by decide +kernel : ∀ w ∈ wsX30, w ∈ wsX3_before)
  have k_2 := hts (.fieldLink RX3 13 "FlowLedgerModel" "tos" "[I") (by decide +kernel)
  have k_3 := hts (.fieldLink RX3 7 "FlowLedgerModel" "froms" "[I") (by decide +kernel)
  unfold f_X3_before at h
  have W0 : ∀ (H : Heap) (locs : List Loc), gS D (wm ad cz) A s.heap σ H locs → W p l e rm_X3_before s m args below meth c H locs 0 0 Q (F0 m 0 ls []) := by
    intro H locs hg
    refine lv_aload_n hx hb dX3_before_0 rfl (lv_at hl 0 rfl) ?_
    refine va_get (D := D) (ci := 3) (v := .ref (ad 10)) (C := RX3) (T := TX3) (N := 16) hx hb hts k_1 hown hK.1 hg.1 0 rfl rfl 11 (by decide) k_0 (fun _ h9 => h9) rfl dX3_before_1 ?_
    refine lv_iload_n hx hb dX3_before_4 rfl (lv_at hl 1 rfl) ?_
    obtain ⟨v1, i2, e3, h⟩ := fl_rd_b h
    refine g_ld (n := 10) (t0 := 9) hx hb hK hg (wm_a9 ad cz _) rfl i2 e3 dX3_before_5 ?_
    refine lv_istore_n (lv' := [(2, .int v1), (0, .ref (ad 0)), (1, .int x1)]) hx hb dX3_before_6 rfl hl (by decide) rfl (fun ls hl => ?_)
    refine lv_iload_n hx hb dX3_before_7 rfl (lv_at hl 0 rfl) ?_
    obtain ⟨t5, hB7, h⟩ := fl_bnd h
    have J6 : ∀ (H : Heap) (locs : List Loc) (ls : Array Slot), gS D (wm ad cz) A s.heap σ H locs → lv_has ls 3 [] → W p l e rm_X3_before s m args below meth c H locs 0 0 Q (F0 m 28 ls [.int t5]) := by
      intro H locs ls hg hl
      exact hret _ _ _ _ _ _ (congrArg (Option.map (fun q => (q, σ))) h) hg rfl dX3_before_28
    clear h
    have h := hB7
    refine lv_if_lt (tgt := 20) hx hb dX3_before_8 (by decide) (fun c4 => ?_) (fun c4 => ?_)
    · have h := fl_ifp c4 h
      refine lv_aload_n hx hb dX3_before_20 rfl (lv_at hl 1 rfl) ?_
      refine va_get (D := D) (ci := 3) (v := .ref (ad 2)) (C := RX3) (T := TX3) (N := 16) hx hb hts k_1 hown hK.1 hg.1 0 rfl rfl 2 (by decide) k_2 (fun _ h9 => h9) rfl dX3_before_21 ?_
      refine lv_iconst (v := (-1)) hx hb dX3_before_24 (by decide) ?_
      refine lv_iload_n hx hb dX3_before_25 rfl (lv_at hl 0 rfl) ?_
      refine lv_isub hx hb dX3_before_26 ?_
      obtain ⟨v8, i9, e10, h⟩ := fl_rd_b h
      refine g_ld (n := 36) (t0 := 1) hx hb hK hg (wm_a1 ad cz _) rfl i9 e10 dX3_before_27 ?_
      obtain rfl := fl_s1 h
      exact J6 H locs ls hg (lv_sub hl [] rfl)
    · have h := fl_ifn c4 h
      refine lv_aload_n hx hb dX3_before_11 rfl (lv_at hl 1 rfl) ?_
      refine va_get (D := D) (ci := 3) (v := .ref (ad 1)) (C := RX3) (T := TX3) (N := 16) hx hb hts k_1 hown hK.1 hg.1 0 rfl rfl 1 (by decide) k_3 (fun _ h9 => h9) rfl dX3_before_12 ?_
      refine lv_iload_n hx hb dX3_before_15 rfl (lv_at hl 0 rfl) ?_
      obtain ⟨v11, i12, e13, h⟩ := fl_rd_b h
      refine g_ld (n := 36) (t0 := 0) hx hb hK hg (wm_a0 ad cz _) rfl i12 e13 dX3_before_16 ?_
      refine lv_goto (tgt := 28) hx hb dX3_before_17 (by decide) ?_
      obtain rfl := fl_s1 h
      exact J6 H locs ls hg (lv_sub hl [] rfl)
  exact W0 _ _ hg
def f_X3_goRound_l4 (σ : fl_St) : Nat → Int32 → Int32 → Option (Int32)
  | 0, _, _ => none
  | n + 1, x2, x3 => if (8) ≤ x3 then (some (x2)) else ((f_X3_before x2 σ).bind fun r3 => f_X3_goRound_l4 σ n r3 (x3 + 1))
def f_X3_goRound_l31 (x2 : Int32) (σ : fl_St) : Nat → Int32 → Int32 → Int32 → Option (Int32 × Int32)
  | 0, _, _, _ => none
  | n + 1, x3, x4, x5 => if x5 = 0 then (some (x3, x4)) else ((fl_rd σ 9 10 x4).bind fun v7 => (if v7 < 0 then ((fl_rd σ 5 36 ((-1) - v7)).bind fun v24 => some (v24)) else ((fl_rd σ 2 36 v7).bind fun v27 => (fl_rd σ 5 36 v7).bind fun v30 => some ((v27 - v30)))).bind fun (t11 : Int32) => (if x3 ≤ t11 then (some (x3)) else (some (t11))).bind fun (t15 : Int32) => (f_X3_before x4 σ).bind fun r19 => (if r19 = x2 then (some ((0))) else (some ((1)))).bind fun (t21 : Int32) => f_X3_goRound_l31 x2 σ n t15 r19 t21)
def f_X3_goRound_l119 (x2 : Int32) (x3 : Int32) : Nat → Int32 → Int32 → fl_St → Option (fl_St)
  | 0, _, _, _ => none
  | n + 1, x4, x5, σ => if x5 = 0 then (some (σ)) else ((fl_rd σ 9 10 x4).bind fun v37 => (f_X3_before x4 σ).bind fun r41 => (if v37 < 0 then ((fl_rd σ 5 36 ((-1) - v37)).bind fun v50 => (fl_wr σ 5 36 ((-1) - v37) (v50 - x3)).bind fun σ53 => some (σ53)) else ((fl_rd σ 5 36 v37).bind fun v56 => (fl_wr σ 5 36 v37 (v56 + x3)).bind fun σ59 => some (σ59))).bind fun (σ43 : fl_St) => (if r41 = x2 then (some ((0))) else (some ((1)))).bind fun (t47 : Int32) => f_X3_goRound_l119 x2 x3 n r41 t47 σ43)
def f_X3_goRound (x1 : Int32) (σ : fl_St) : Option (fl_St) := (f_X3_goRound_l4 σ fl_N x1 (0)).bind fun (w4 : Int32) => fl_b2 (f_X3_goRound_l31 w4 σ fl_N (1000000) w4 (1)) fun (w33 : Int32) (w34 : Int32) => (f_X3_goRound_l119 w4 w33 fl_N w34 (1) σ).bind fun (σ62 : fl_St) => some σ62
def rm_X3_goRound : Room := { frames := 1, cells := 0, slots := 0, locals := 22 }
set_option maxHeartbeats 4000000 in
set_option maxRecDepth 100000 in
theorem c_X3_goRound (l : Launch) (D : va_G) (ad : Nat → Nat) (cz : Nat → ClassId) (x1 : Int32) (σ : fl_St) {σ' : fl_St} (h : f_X3_goRound x1 σ = some σ') : gMv l yX3_goRound wsX3_goRound rm_X3_goRound D (wm ad cz) (wmT cz) [] [.ref (ad 0), .int x1] σ σ' := by
  refine gMv_of (cc := cX3_goRound) (maxL := 8) (by decide) rfl (Nat.le_of_ble_eq_true rfl) ?_
  intro p e s m args below meth c A Q ls hx hb hml hown hts hK hA hg hl hret
  have hown : s.vm.findClass RX3 = some m.cls := hown
  have hl : lv_has ls 8 [(0, .ref (ad 0)), (1, .int x1)] := hl
  have k_0 := hts (.constant RX3 60 (1000000)) (by decide +kernel)
  have k_1 := hts (.fieldLink RX3 38 "FlowLedgerModel" "by" "[I") (by decide +kernel)
  have k_2 := (by decide +kernel : ∀ w ∈ wsX30, w ∈ wsX3_goRound)
  have k_3 := hts (.fieldLink RX3 25 "FlowLedgerModel" "flow" "[I") (by decide +kernel)
  have k_4 := hts (.fieldLink RX3 16 "FlowLedgerModel" "capacities" "[I") (by decide +kernel)
  have L4 : ∀ (n : Nat) (σ : fl_St) (x2 : Int32) (x3 : Int32) (o2 : Int32) (H : Heap) (locs : List Loc) (ls : Array Slot), f_X3_goRound_l4 σ n x2 x3 = some (o2) → gS D (wm ad cz) A s.heap σ H locs → lv_has ls 8 [(0, .ref (ad 0)), (2, .int x2), (3, .int x3)] → (∀ (H : Heap) (locs : List Loc) (ls : Array Slot), gS D (wm ad cz) A s.heap σ H locs → lv_has ls 8 [(0, .ref (ad 0)), (2, .int o2)] → W p l e rm_X3_goRound s m args below meth c H locs 0 0 Q (F0 m 22 ls [])) → W p l e rm_X3_goRound s m args below meth c H locs 0 0 Q (F0 m 4 ls []) := by
    intro n
    induction n with
    | zero =>
      intro σ x2 x3 o2 H locs ls h hg hl kk0
      rw [f_X3_goRound_l4] at h
      cases h
    | succ n ih =>
      intro σ x2 x3 o2 H locs ls h hg hl kk0
      rw [f_X3_goRound_l4] at h
      refine lv_iload_n hx hb dX3_goRound_4 rfl (lv_at hl 2 rfl) ?_
      refine lv_bipush (v := (8)) hx hb dX3_goRound_5 (by decide) ?_
      refine lv_icmp_ge (tgt := 22) hx hb dX3_goRound_7 (by decide) (fun c1 => ?_) (fun c1 => ?_)
      · have h := fl_ifp c1 h
        obtain rfl := fl_s1 h
        exact kk0 H locs ls hg (lv_sub hl [0, 1] rfl)
      · have h := fl_ifn c1 h
        refine lv_aload_n hx hb dX3_goRound_10 rfl (lv_at hl 0 rfl) ?_
        refine lv_iload_n hx hb dX3_goRound_11 rfl (lv_at hl 1 rfl) ?_
        obtain ⟨r3, e2, h⟩ := fl_bnd h
        refine g_callVi (As := [.int x2]) (rest := []) ⟨hx, hb, hml, hown, hts⟩ (c_X3_before l D ad cz (x2) (σ) e2) (cwV 1 hts gX3_goRound_X3_before rfl rfl rfl (by decide +kernel) ⟨Nat.le_of_ble_eq_true rfl, Nat.le_of_ble_eq_true rfl⟩) (va_recv hK.1 hg.1 (ci := 3) (q0 := 0) rfl rfl) hK hA hg rfl hl.1 rfl (Nat.le_of_ble_eq_true rfl) dX3_goRound_12 ⟨Nat.le_of_ble_eq_true rfl, Nat.le_of_ble_eq_true rfl⟩ (fun H locs hg => ?_)
        refine lv_istore_n (lv' := [(2, .int r3), (0, .ref (ad 0)), (3, .int x3)]) hx hb dX3_goRound_15 rfl hl (by decide) rfl (fun ls hl => ?_)
        refine lv_iinc (v := (x3 + 1)) (lv' := [(3, .int (x3 + 1)), (2, .int r3), (0, .ref (ad 0))]) hx hb dX3_goRound_16 hl (k := 2) rfl rfl (by decide) rfl (fun ls hl => ?_)
        refine lv_goto (tgt := 4) hx hb dX3_goRound_19 (by decide) ?_
        exact ih _ _ _ _ _ _ _ h hg (lv_sub hl [2, 1, 0] rfl) kk0
  have L31 : ∀ (n : Nat) (x2 : Int32) (σ : fl_St) (x3 : Int32) (x4 : Int32) (x5 : Int32) (o3 : Int32) (o4 : Int32) (H : Heap) (locs : List Loc) (ls : Array Slot), f_X3_goRound_l31 x2 σ n x3 x4 x5 = some (o3, o4) → gS D (wm ad cz) A s.heap σ H locs → lv_has ls 8 [(0, .ref (ad 0)), (2, .int x2), (3, .int x3), (4, .int x4), (5, .int x5)] → (∀ (H : Heap) (locs : List Loc) (ls : Array Slot), gS D (wm ad cz) A s.heap σ H locs → lv_has ls 8 [(0, .ref (ad 0)), (2, .int x2), (3, .int o3), (4, .int o4)] → W p l e rm_X3_goRound s m args below meth c H locs 0 0 Q (F0 m 116 ls [])) → W p l e rm_X3_goRound s m args below meth c H locs 0 0 Q (F0 m 31 ls []) := by
    intro n
    induction n with
    | zero =>
      intro x2 σ x3 x4 x5 o3 o4 H locs ls h hg hl kk0
      rw [f_X3_goRound_l31] at h
      cases h
    | succ n ih =>
      intro x2 σ x3 x4 x5 o3 o4 H locs ls h hg hl kk0
      rw [f_X3_goRound_l31] at h
      refine lv_iload hx hb dX3_goRound_31 (lv_at hl 4 rfl) ?_
      refine lv_if_eq (tgt := 116) hx hb dX3_goRound_33 (by decide) (fun c6 => ?_) (fun c6 => ?_)
      · have h := fl_ifp c6 h
        obtain ⟨rfl, rfl⟩ := fl_s2 h
        exact kk0 H locs ls hg (lv_sub hl [0, 1, 2, 3] rfl)
      · have h := fl_ifn c6 h
        refine lv_aload_n hx hb dX3_goRound_36 rfl (lv_at hl 0 rfl) ?_
        refine va_get (D := D) (ci := 3) (v := .ref (ad 10)) (C := RX3) (T := TX3) (N := 16) hx hb hts k_2 hown hK.1 hg.1 0 rfl rfl 11 (by decide) k_1 (fun _ h9 => h9) rfl dX3_goRound_37 ?_
        refine lv_iload hx hb dX3_goRound_40 (lv_at hl 3 rfl) ?_
        obtain ⟨v7, i8, e9, h⟩ := fl_rd_b h
        refine g_ld (n := 10) (t0 := 9) hx hb hK hg (wm_a9 ad cz _) rfl i8 e9 dX3_goRound_42 ?_
        refine lv_istore (lv' := [(6, .int v7), (0, .ref (ad 0)), (2, .int x2), (3, .int x3), (4, .int x4), (5, .int x5)]) hx hb dX3_goRound_43 hl (by decide) rfl (fun ls hl => ?_)
        refine lv_iload hx hb dX3_goRound_45 (lv_at hl 0 rfl) ?_
        obtain ⟨t11, hB13, h⟩ := fl_bnd h
        have J12 : ∀ (H : Heap) (locs : List Loc) (ls : Array Slot), gS D (wm ad cz) A s.heap σ H locs → lv_has ls 8 [(0, .ref (ad 0)), (2, .int x2), (3, .int x3), (4, .int x4)] → W p l e rm_X3_goRound s m args below meth c H locs 0 0 Q (F0 m 77 ls [.int t11]) := by
          intro H locs ls hg hl
          refine lv_istore (lv' := [(7, .int t11), (0, .ref (ad 0)), (2, .int x2), (3, .int x3), (4, .int x4)]) hx hb dX3_goRound_77 hl (by decide) rfl (fun ls hl => ?_)
          refine lv_iload hx hb dX3_goRound_79 (lv_at hl 0 rfl) ?_
          refine lv_iload_n hx hb dX3_goRound_81 rfl (lv_at hl 3 rfl) ?_
          obtain ⟨t15, hB17, h⟩ := fl_bnd h
          have J16 : ∀ (H : Heap) (locs : List Loc) (ls : Array Slot), gS D (wm ad cz) A s.heap σ H locs → lv_has ls 8 [(0, .ref (ad 0)), (2, .int x2), (4, .int x4)] → W p l e rm_X3_goRound s m args below meth c H locs 0 0 Q (F0 m 91 ls [.int t15]) := by
            intro H locs ls hg hl
            refine lv_istore_n (lv' := [(3, .int t15), (0, .ref (ad 0)), (2, .int x2), (4, .int x4)]) hx hb dX3_goRound_91 rfl hl (by decide) rfl (fun ls hl => ?_)
            refine lv_aload_n hx hb dX3_goRound_92 rfl (lv_at hl 1 rfl) ?_
            refine lv_iload hx hb dX3_goRound_93 (lv_at hl 3 rfl) ?_
            obtain ⟨r19, e18, h⟩ := fl_bnd h
            refine g_callVi (As := [.int x4]) (rest := []) ⟨hx, hb, hml, hown, hts⟩ (c_X3_before l D ad cz (x4) (σ) e18) (cwV 1 hts gX3_goRound_X3_before rfl rfl rfl (by decide +kernel) ⟨Nat.le_of_ble_eq_true rfl, Nat.le_of_ble_eq_true rfl⟩) (va_recv hK.1 hg.1 (ci := 3) (q0 := 0) rfl rfl) hK hA hg rfl hl.1 rfl (Nat.le_of_ble_eq_true rfl) dX3_goRound_95 ⟨Nat.le_of_ble_eq_true rfl, Nat.le_of_ble_eq_true rfl⟩ (fun H locs hg => ?_)
            refine lv_istore (lv' := [(4, .int r19), (3, .int t15), (0, .ref (ad 0)), (2, .int x2)]) hx hb dX3_goRound_98 hl (by decide) rfl (fun ls hl => ?_)
            refine lv_iload hx hb dX3_goRound_100 (lv_at hl 0 rfl) ?_
            refine lv_iload_n hx hb dX3_goRound_102 rfl (lv_at hl 3 rfl) ?_
            obtain ⟨t21, hB23, h⟩ := fl_bnd h
            have J22 : ∀ (H : Heap) (locs : List Loc) (ls : Array Slot), gS D (wm ad cz) A s.heap σ H locs → lv_has ls 8 [(0, .ref (ad 0)), (2, .int x2), (3, .int t15), (4, .int r19)] → W p l e rm_X3_goRound s m args below meth c H locs 0 0 Q (F0 m 111 ls [.int t21]) := by
              intro H locs ls hg hl
              refine lv_istore (lv' := [(5, .int t21), (0, .ref (ad 0)), (2, .int x2), (3, .int t15), (4, .int r19)]) hx hb dX3_goRound_111 hl (by decide) rfl (fun ls hl => ?_)
              refine lv_goto (tgt := 31) hx hb dX3_goRound_113 (by decide) ?_
              exact ih _ _ _ _ _ _ _ _ _ _ h hg (lv_sub hl [1, 2, 3, 4, 0] rfl) kk0
            clear h
            have h := hB23
            refine lv_icmp_eq (tgt := 110) hx hb dX3_goRound_103 (by decide) (fun c20 => ?_) (fun c20 => ?_)
            · have h := fl_ifp c20 h
              refine lv_iconst (v := (0)) hx hb dX3_goRound_110 (by decide) ?_
              obtain rfl := fl_s1 h
              exact J22 H locs ls hg (lv_sub hl [2, 3, 1, 0] rfl)
            · have h := fl_ifn c20 h
              refine lv_iconst (v := (1)) hx hb dX3_goRound_106 (by decide) ?_
              refine lv_goto (tgt := 111) hx hb dX3_goRound_107 (by decide) ?_
              obtain rfl := fl_s1 h
              exact J22 H locs ls hg (lv_sub hl [2, 3, 1, 0] rfl)
          clear h
          have h := hB17
          refine lv_icmp_ge (tgt := 90) hx hb dX3_goRound_82 (by decide) (fun c14 => ?_) (fun c14 => ?_)
          · have h := fl_ifp c14 h
            refine lv_iload_n hx hb dX3_goRound_90 rfl (lv_at hl 3 rfl) ?_
            obtain rfl := fl_s1 h
            exact J16 H locs ls hg (lv_sub hl [1, 2, 4] rfl)
          · have h := fl_ifn c14 h
            refine lv_iload hx hb dX3_goRound_85 (lv_at hl 0 rfl) ?_
            refine lv_goto (tgt := 91) hx hb dX3_goRound_87 (by decide) ?_
            obtain rfl := fl_s1 h
            exact J16 H locs ls hg (lv_sub hl [1, 2, 4] rfl)
        clear h
        have h := hB13
        refine lv_if_lt (tgt := 68) hx hb dX3_goRound_47 (by decide) (fun c10 => ?_) (fun c10 => ?_)
        · have h := fl_ifp c10 h
          refine lv_aload_n hx hb dX3_goRound_68 rfl (lv_at hl 1 rfl) ?_
          refine va_get (D := D) (ci := 3) (v := .ref (ad 6)) (C := RX3) (T := TX3) (N := 16) hx hb hts k_2 hown hK.1 hg.1 0 rfl rfl 6 (by decide) k_3 (fun _ h9 => h9) rfl dX3_goRound_69 ?_
          refine lv_iconst (v := (-1)) hx hb dX3_goRound_72 (by decide) ?_
          refine lv_iload hx hb dX3_goRound_73 (lv_at hl 0 rfl) ?_
          refine lv_isub hx hb dX3_goRound_75 ?_
          obtain ⟨v24, i25, e26, h⟩ := fl_rd_b h
          refine g_ld (n := 36) (t0 := 5) hx hb hK hg (wm_a5 ad cz _) rfl i25 e26 dX3_goRound_76 ?_
          obtain rfl := fl_s1 h
          exact J12 H locs ls hg (lv_sub hl [1, 2, 3, 4] rfl)
        · have h := fl_ifn c10 h
          refine lv_aload_n hx hb dX3_goRound_50 rfl (lv_at hl 1 rfl) ?_
          refine va_get (D := D) (ci := 3) (v := .ref (ad 3)) (C := RX3) (T := TX3) (N := 16) hx hb hts k_2 hown hK.1 hg.1 0 rfl rfl 3 (by decide) k_4 (fun _ h9 => h9) rfl dX3_goRound_51 ?_
          refine lv_iload hx hb dX3_goRound_54 (lv_at hl 0 rfl) ?_
          obtain ⟨v27, i28, e29, h⟩ := fl_rd_b h
          refine g_ld (n := 36) (t0 := 2) hx hb hK hg (wm_a2 ad cz _) rfl i28 e29 dX3_goRound_56 ?_
          refine lv_aload_n hx hb dX3_goRound_57 rfl (lv_at hl 1 rfl) ?_
          refine va_get (D := D) (ci := 3) (v := .ref (ad 6)) (C := RX3) (T := TX3) (N := 16) hx hb hts k_2 hown hK.1 hg.1 0 rfl rfl 6 (by decide) k_3 (fun _ h9 => h9) rfl dX3_goRound_58 ?_
          refine lv_iload hx hb dX3_goRound_61 (lv_at hl 0 rfl) ?_
          obtain ⟨v30, i31, e32, h⟩ := fl_rd_b h
          refine g_ld (n := 36) (t0 := 5) hx hb hK hg (wm_a5 ad cz _) rfl i31 e32 dX3_goRound_63 ?_
          refine lv_isub hx hb dX3_goRound_64 ?_
          refine lv_goto (tgt := 77) hx hb dX3_goRound_65 (by decide) ?_
          obtain rfl := fl_s1 h
          exact J12 H locs ls hg (lv_sub hl [1, 2, 3, 4] rfl)
  have L119 : ∀ (n : Nat) (x2 : Int32) (x3 : Int32) (x4 : Int32) (x5 : Int32) (σ : fl_St) (σo : fl_St) (H : Heap) (locs : List Loc) (ls : Array Slot), f_X3_goRound_l119 x2 x3 n x4 x5 σ = some (σo) → gS D (wm ad cz) A s.heap σ H locs → lv_has ls 8 [(0, .ref (ad 0)), (2, .int x2), (3, .int x3), (4, .int x4), (5, .int x5)] → (∀ (H : Heap) (locs : List Loc) (ls : Array Slot), gS D (wm ad cz) A s.heap σo H locs → lv_has ls 8 [] → W p l e rm_X3_goRound s m args below meth c H locs 0 0 Q (F0 m 193 ls [])) → W p l e rm_X3_goRound s m args below meth c H locs 0 0 Q (F0 m 119 ls []) := by
    intro n
    induction n with
    | zero =>
      intro x2 x3 x4 x5 σ σo H locs ls h hg hl kk0
      rw [f_X3_goRound_l119] at h
      cases h
    | succ n ih =>
      intro x2 x3 x4 x5 σ σo H locs ls h hg hl kk0
      rw [f_X3_goRound_l119] at h
      refine lv_iload hx hb dX3_goRound_119 (lv_at hl 4 rfl) ?_
      refine lv_if_eq (tgt := 193) hx hb dX3_goRound_121 (by decide) (fun c36 => ?_) (fun c36 => ?_)
      · have h := fl_ifp c36 h
        obtain rfl := fl_s1 h
        exact kk0 H locs ls hg (lv_sub hl [] rfl)
      · have h := fl_ifn c36 h
        refine lv_aload_n hx hb dX3_goRound_124 rfl (lv_at hl 0 rfl) ?_
        refine va_get (D := D) (ci := 3) (v := .ref (ad 10)) (C := RX3) (T := TX3) (N := 16) hx hb hts k_2 hown hK.1 hg.1 0 rfl rfl 11 (by decide) k_1 (fun _ h9 => h9) rfl dX3_goRound_125 ?_
        refine lv_iload hx hb dX3_goRound_128 (lv_at hl 3 rfl) ?_
        obtain ⟨v37, i38, e39, h⟩ := fl_rd_b h
        refine g_ld (n := 10) (t0 := 9) hx hb hK hg (wm_a9 ad cz _) rfl i38 e39 dX3_goRound_130 ?_
        refine lv_istore (lv' := [(6, .int v37), (0, .ref (ad 0)), (2, .int x2), (3, .int x3), (4, .int x4), (5, .int x5)]) hx hb dX3_goRound_131 hl (by decide) rfl (fun ls hl => ?_)
        refine lv_aload_n hx hb dX3_goRound_133 rfl (lv_at hl 1 rfl) ?_
        refine lv_iload hx hb dX3_goRound_134 (lv_at hl 4 rfl) ?_
        obtain ⟨r41, e40, h⟩ := fl_bnd h
        refine g_callVi (As := [.int x4]) (rest := []) ⟨hx, hb, hml, hown, hts⟩ (c_X3_before l D ad cz (x4) (σ) e40) (cwV 1 hts gX3_goRound_X3_before rfl rfl rfl (by decide +kernel) ⟨Nat.le_of_ble_eq_true rfl, Nat.le_of_ble_eq_true rfl⟩) (va_recv hK.1 hg.1 (ci := 3) (q0 := 0) rfl rfl) hK hA hg rfl hl.1 rfl (Nat.le_of_ble_eq_true rfl) dX3_goRound_136 ⟨Nat.le_of_ble_eq_true rfl, Nat.le_of_ble_eq_true rfl⟩ (fun H locs hg => ?_)
        refine lv_istore (lv' := [(7, .int r41), (6, .int v37), (0, .ref (ad 0)), (2, .int x2), (3, .int x3), (4, .int x4), (5, .int x5)]) hx hb dX3_goRound_139 hl (by decide) rfl (fun ls hl => ?_)
        refine lv_iload hx hb dX3_goRound_141 (lv_at hl 1 rfl) ?_
        obtain ⟨σ43, hB45, h⟩ := fl_bnd h
        have J44 : ∀ (H : Heap) (locs : List Loc) (ls : Array Slot), gS D (wm ad cz) A s.heap σ43 H locs → lv_has ls 8 [(0, .ref (ad 0)), (2, .int x2), (3, .int x3), (7, .int r41)] → W p l e rm_X3_goRound s m args below meth c H locs 0 0 Q (F0 m 173 ls []) := by
          intro H locs ls hg hl
          refine lv_iload hx hb dX3_goRound_173 (lv_at hl 3 rfl) ?_
          refine lv_istore (lv' := [(4, .int r41), (0, .ref (ad 0)), (2, .int x2), (3, .int x3), (7, .int r41)]) hx hb dX3_goRound_175 hl (by decide) rfl (fun ls hl => ?_)
          refine lv_iload hx hb dX3_goRound_177 (lv_at hl 0 rfl) ?_
          refine lv_iload_n hx hb dX3_goRound_179 rfl (lv_at hl 2 rfl) ?_
          obtain ⟨t47, hB49, h⟩ := fl_bnd h
          have J48 : ∀ (H : Heap) (locs : List Loc) (ls : Array Slot), gS D (wm ad cz) A s.heap σ43 H locs → lv_has ls 8 [(0, .ref (ad 0)), (2, .int x2), (3, .int x3), (4, .int r41)] → W p l e rm_X3_goRound s m args below meth c H locs 0 0 Q (F0 m 188 ls [.int t47]) := by
            intro H locs ls hg hl
            refine lv_istore (lv' := [(5, .int t47), (0, .ref (ad 0)), (2, .int x2), (3, .int x3), (4, .int r41)]) hx hb dX3_goRound_188 hl (by decide) rfl (fun ls hl => ?_)
            refine lv_goto (tgt := 119) hx hb dX3_goRound_190 (by decide) ?_
            exact ih _ _ _ _ _ _ _ _ _ h hg (lv_sub hl [1, 2, 3, 4, 0] rfl) kk0
          clear h
          have h := hB49
          refine lv_icmp_eq (tgt := 187) hx hb dX3_goRound_180 (by decide) (fun c46 => ?_) (fun c46 => ?_)
          · have h := fl_ifp c46 h
            refine lv_iconst (v := (0)) hx hb dX3_goRound_187 (by decide) ?_
            obtain rfl := fl_s1 h
            exact J48 H locs ls hg (lv_sub hl [1, 2, 3, 0] rfl)
          · have h := fl_ifn c46 h
            refine lv_iconst (v := (1)) hx hb dX3_goRound_183 (by decide) ?_
            refine lv_goto (tgt := 188) hx hb dX3_goRound_184 (by decide) ?_
            obtain rfl := fl_s1 h
            exact J48 H locs ls hg (lv_sub hl [1, 2, 3, 0] rfl)
        clear h
        have h := hB45
        refine lv_if_lt (tgt := 160) hx hb dX3_goRound_143 (by decide) (fun c42 => ?_) (fun c42 => ?_)
        · have h := fl_ifp c42 h
          refine lv_aload_n hx hb dX3_goRound_160 rfl (lv_at hl 2 rfl) ?_
          refine va_get (D := D) (ci := 3) (v := .ref (ad 6)) (C := RX3) (T := TX3) (N := 16) hx hb hts k_2 hown hK.1 hg.1 0 rfl rfl 6 (by decide) k_3 (fun _ h9 => h9) rfl dX3_goRound_161 ?_
          refine lv_iconst (v := (-1)) hx hb dX3_goRound_164 (by decide) ?_
          refine lv_iload hx hb dX3_goRound_165 (lv_at hl 1 rfl) ?_
          refine lv_isub hx hb dX3_goRound_167 ?_
          refine lv_dup2_11 hx hb dX3_goRound_168 rfl rfl ?_
          obtain ⟨v50, i51, e52, h⟩ := fl_rd_b h
          refine g_ld (n := 36) (t0 := 5) hx hb hK hg (wm_a5 ad cz _) rfl i51 e52 dX3_goRound_169 ?_
          refine lv_iload_n hx hb dX3_goRound_170 rfl (lv_at hl 4 rfl) ?_
          refine lv_isub hx hb dX3_goRound_171 ?_
          obtain ⟨σ53, i54, e55, h⟩ := fl_wr_b h
          refine g_st (n := 36) (t0 := 5) hx hb hK hg (wm_a5 ad cz _) (wm_s5 ad cz _) rfl i54 e55 dX3_goRound_172 (fun H locs hg => ?_)
          obtain rfl := fl_s1 h
          exact J44 H locs ls hg (lv_sub hl [2, 3, 4, 0] rfl)
        · have h := fl_ifn c42 h
          refine lv_aload_n hx hb dX3_goRound_146 rfl (lv_at hl 2 rfl) ?_
          refine va_get (D := D) (ci := 3) (v := .ref (ad 6)) (C := RX3) (T := TX3) (N := 16) hx hb hts k_2 hown hK.1 hg.1 0 rfl rfl 6 (by decide) k_3 (fun _ h9 => h9) rfl dX3_goRound_147 ?_
          refine lv_iload hx hb dX3_goRound_150 (lv_at hl 1 rfl) ?_
          refine lv_dup2_11 hx hb dX3_goRound_152 rfl rfl ?_
          obtain ⟨v56, i57, e58, h⟩ := fl_rd_b h
          refine g_ld (n := 36) (t0 := 5) hx hb hK hg (wm_a5 ad cz _) rfl i57 e58 dX3_goRound_153 ?_
          refine lv_iload_n hx hb dX3_goRound_154 rfl (lv_at hl 4 rfl) ?_
          refine lv_iadd hx hb dX3_goRound_155 ?_
          obtain ⟨σ59, i60, e61, h⟩ := fl_wr_b h
          refine g_st (n := 36) (t0 := 5) hx hb hK hg (wm_a5 ad cz _) (wm_s5 ad cz _) rfl i60 e61 dX3_goRound_156 (fun H locs hg => ?_)
          refine lv_goto (tgt := 173) hx hb dX3_goRound_157 (by decide) ?_
          obtain rfl := fl_s1 h
          exact J44 H locs ls hg (lv_sub hl [2, 3, 4, 0] rfl)
  unfold f_X3_goRound at h
  have W0 : ∀ (H : Heap) (locs : List Loc), gS D (wm ad cz) A s.heap σ H locs → W p l e rm_X3_goRound s m args below meth c H locs 0 0 Q (F0 m 0 ls []) := by
    intro H locs hg
    refine lv_iload_n hx hb dX3_goRound_0 rfl (lv_at hl 1 rfl) ?_
    refine lv_istore_n (lv' := [(2, .int x1), (0, .ref (ad 0)), (1, .int x1)]) hx hb dX3_goRound_1 rfl hl (by decide) rfl (fun ls hl => ?_)
    refine lv_iconst (v := (0)) hx hb dX3_goRound_2 (by decide) ?_
    refine lv_istore_n (lv' := [(3, .int (0)), (2, .int x1), (0, .ref (ad 0)), (1, .int x1)]) hx hb dX3_goRound_3 rfl hl (by decide) rfl (fun ls hl => ?_)
    obtain ⟨w4, hB5, h⟩ := fl_bnd h
    refine L4 fl_N _ _ _ _ H locs ls hB5 hg (lv_sub hl [2, 1, 0] rfl) (fun H locs ls hg hl => ?_)
    refine lv_ldc hx hb hown k_0 dX3_goRound_22 ?_
    refine lv_istore_n (lv' := [(3, .int (1000000)), (0, .ref (ad 0)), (2, .int w4)]) hx hb dX3_goRound_24 rfl hl (by decide) rfl (fun ls hl => ?_)
    refine lv_iload_n hx hb dX3_goRound_25 rfl (lv_at hl 2 rfl) ?_
    refine lv_istore (lv' := [(4, .int w4), (3, .int (1000000)), (0, .ref (ad 0)), (2, .int w4)]) hx hb dX3_goRound_26 hl (by decide) rfl (fun ls hl => ?_)
    refine lv_iconst (v := (1)) hx hb dX3_goRound_28 (by decide) ?_
    refine lv_istore (lv' := [(5, .int (1)), (4, .int w4), (3, .int (1000000)), (0, .ref (ad 0)), (2, .int w4)]) hx hb dX3_goRound_29 hl (by decide) rfl (fun ls hl => ?_)
    obtain ⟨w33, w34, hB35, h⟩ := fl_b2_b h
    refine L31 fl_N _ _ _ _ _ _ _ H locs ls hB35 hg (lv_sub hl [3, 4, 2, 1, 0] rfl) (fun H locs ls hg hl => ?_)
    refine lv_iconst (v := (1)) hx hb dX3_goRound_116 (by decide) ?_
    refine lv_istore (lv' := [(5, .int (1)), (0, .ref (ad 0)), (2, .int w4), (3, .int w33), (4, .int w34)]) hx hb dX3_goRound_117 hl (by decide) rfl (fun ls hl => ?_)
    obtain ⟨σ62, hB63, h⟩ := fl_bnd h
    refine L119 fl_N _ _ _ _ _ _ H locs ls hB63 hg (lv_sub hl [1, 2, 3, 4, 0] rfl) (fun H locs ls hg hl => ?_)
    exact hret _ _ _ _ _ h hg dX3_goRound_193
  exact W0 _ _ hg
def f_X3_solve_l6 (σ : fl_St) : Nat → Int32 → Int32 → Int32 → Option (Int32 × Int32)
  | 0, _, _, _ => none
  | n + 1, x1, x2, x3 => if (8) ≤ x3 then (some (x1, x2)) else ((fl_rd σ 4 8 x3).bind fun v2 => (if v2 ≤ 0 then (some ((0))) else ((fl_rd σ 4 8 x3).bind fun v19 => some (v19))).bind fun (t6 : Int32) => (fl_rd σ 4 8 x3).bind fun v9 => (if 0 ≤ v9 then (some ((0))) else ((fl_rd σ 4 8 x3).bind fun v16 => some ((-v16)))).bind fun (t13 : Int32) => f_X3_solve_l6 σ n (x1 + t6) (x2 + t13) (x3 + 1))
def f_X3_solve_l98 : Nat → Int32 → fl_St → Option (fl_St)
  | 0, _, _ => none
  | n + 1, x3, σ => if x3 = (-1000004) then (some (σ)) else ((f_X3_goRound x3 σ).bind fun σ39 => fl_b2 (f_X3_findRound (0) σ39) fun r41 σ42 => f_X3_solve_l98 n r41 σ42)
def f_X3_solve_l126 : Nat → Int32 → fl_St → Option (fl_St)
  | 0, _, _ => none
  | n + 1, x4, σ => if (σ 13 0) ≤ x4 then (some (σ)) else ((fl_rd σ 5 36 x4).bind fun v48 => (fl_rd σ 3 36 x4).bind fun v51 => (some (st σ 13 2 ((σ 13 2) + (v48 * v51)))).bind fun σ54 => f_X3_solve_l126 n (x4 + 1) σ54)
def f_X3_solve (σ : fl_St) : Option (Int32 × fl_St) := fl_b2 (f_X3_solve_l6 σ fl_N (0) (0) (0)) fun (w22 : Int32) (w23 : Int32) => if w22 = w23 then (fl_b2 (f_X3_fill  σ) fun r27 σ28 => if r27 = w22 then (fl_b2 (f_X3_findRound (1) σ28) fun r31 σ32 => if r31 = (-1000004) then (fl_b2 (f_X3_findRound (0) σ32) fun r35 σ36 => (f_X3_solve_l98 fl_N r35 σ36).bind fun (σ43 : fl_St) => (some (st σ43 13 2 (0))).bind fun σ45 => (f_X3_solve_l126 fl_N (0) σ45).bind fun (σ56 : fl_St) => some ((0), σ56)) else (some ((-1000003), σ32))) else (some ((-1000002), σ28))) else (some ((-1000002), σ))
def rm_X3_solve : Room := { frames := 4, cells := 0, slots := 0, locals := 100 }
set_option maxHeartbeats 4000000 in
set_option maxRecDepth 100000 in
theorem c_X3_solve (l : Launch) (D : va_G) (ad : Nat → Nat) (cz : Nat → ClassId) (σ : fl_St) {r : Int32} {σ' : fl_St} (h : f_X3_solve σ = some (r, σ')) : gMi l yX3_solve wsX3_solve rm_X3_solve D (wm ad cz) (wmT cz) [] [.ref (ad 0)] σ r σ' := by
  refine gMi_of (cc := cX3_solve) (maxL := 5) (by decide) rfl (Nat.le_of_ble_eq_true rfl) ?_
  intro p e s m args below meth c A Q ls hx hb hml hown hts hK hA hg hl hret
  have hown : s.vm.findClass RX3 = some m.cls := hown
  have hl : lv_has ls 5 [(0, .ref (ad 0))] := hl
  have k_0 := hts (.fieldLink RX3 22 "FlowLedgerModel" "supplies" "[I") (by decide +kernel)
  have k_1 := (by decide +kernel : ∀ w ∈ wsX30, w ∈ wsX3_solve)
  have k_2 := hts (.constant RX3 90 (-1000002)) (by decide +kernel)
  have k_3 := hts (.constant RX3 84 (-1000004)) (by decide +kernel)
  have k_4 := hts (.fieldLink RX3 100 "FlowLedgerModel" "total" "I") (by decide +kernel)
  have k_5 := hts (.fieldLink RX3 55 "FlowLedgerModel" "arcs" "I") (by decide +kernel)
  have k_6 := hts (.fieldLink RX3 25 "FlowLedgerModel" "flow" "[I") (by decide +kernel)
  have k_7 := hts (.fieldLink RX3 19 "FlowLedgerModel" "costs" "[I") (by decide +kernel)
  have k_8 := hts (.constant RX3 95 (-1000003)) (by decide +kernel)
  have L6 : ∀ (n : Nat) (σ : fl_St) (x1 : Int32) (x2 : Int32) (x3 : Int32) (o1 : Int32) (o2 : Int32) (H : Heap) (locs : List Loc) (ls : Array Slot), f_X3_solve_l6 σ n x1 x2 x3 = some (o1, o2) → gS D (wm ad cz) A s.heap σ H locs → lv_has ls 5 [(0, .ref (ad 0)), (1, .int x1), (2, .int x2), (3, .int x3)] → (∀ (H : Heap) (locs : List Loc) (ls : Array Slot), gS D (wm ad cz) A s.heap σ H locs → lv_has ls 5 [(0, .ref (ad 0)), (1, .int o1), (2, .int o2)] → W p l e rm_X3_solve s m args below meth c H locs 0 0 Q (F0 m 63 ls [])) → W p l e rm_X3_solve s m args below meth c H locs 0 0 Q (F0 m 6 ls []) := by
    intro n
    induction n with
    | zero =>
      intro σ x1 x2 x3 o1 o2 H locs ls h hg hl kk0
      rw [f_X3_solve_l6] at h
      cases h
    | succ n ih =>
      intro σ x1 x2 x3 o1 o2 H locs ls h hg hl kk0
      rw [f_X3_solve_l6] at h
      refine lv_iload_n hx hb dX3_solve_6 rfl (lv_at hl 3 rfl) ?_
      refine lv_bipush (v := (8)) hx hb dX3_solve_7 (by decide) ?_
      refine lv_icmp_ge (tgt := 63) hx hb dX3_solve_9 (by decide) (fun c1 => ?_) (fun c1 => ?_)
      · have h := fl_ifp c1 h
        obtain ⟨rfl, rfl⟩ := fl_s2 h
        exact kk0 H locs ls hg (lv_sub hl [0, 1, 2] rfl)
      · have h := fl_ifn c1 h
        refine lv_iload_n hx hb dX3_solve_12 rfl (lv_at hl 1 rfl) ?_
        refine lv_aload_n hx hb dX3_solve_13 rfl (lv_at hl 0 rfl) ?_
        refine va_get (D := D) (ci := 3) (v := .ref (ad 5)) (C := RX3) (T := TX3) (N := 16) hx hb hts k_1 hown hK.1 hg.1 0 rfl rfl 5 (by decide) k_0 (fun _ h9 => h9) rfl dX3_solve_14 ?_
        refine lv_iload_n hx hb dX3_solve_17 rfl (lv_at hl 3 rfl) ?_
        obtain ⟨v2, i3, e4, h⟩ := fl_rd_b h
        refine g_ld (n := 8) (t0 := 4) hx hb hK hg (wm_a4 ad cz _) rfl i3 e4 dX3_solve_18 ?_
        obtain ⟨t6, hB8, h⟩ := fl_bnd h
        have J7 : ∀ (H : Heap) (locs : List Loc) (ls : Array Slot), gS D (wm ad cz) A s.heap σ H locs → lv_has ls 5 [(0, .ref (ad 0)), (2, .int x2), (3, .int x3)] → W p l e rm_X3_solve s m args below meth c H locs 0 0 Q (F0 m 32 ls [.int t6, .int x1]) := by
          intro H locs ls hg hl
          refine lv_iadd hx hb dX3_solve_32 ?_
          refine lv_istore_n (lv' := [(1, .int (x1 + t6)), (0, .ref (ad 0)), (2, .int x2), (3, .int x3)]) hx hb dX3_solve_33 rfl hl (by decide) rfl (fun ls hl => ?_)
          refine lv_iload_n hx hb dX3_solve_34 rfl (lv_at hl 2 rfl) ?_
          refine lv_aload_n hx hb dX3_solve_35 rfl (lv_at hl 1 rfl) ?_
          refine va_get (D := D) (ci := 3) (v := .ref (ad 5)) (C := RX3) (T := TX3) (N := 16) hx hb hts k_1 hown hK.1 hg.1 0 rfl rfl 5 (by decide) k_0 (fun _ h9 => h9) rfl dX3_solve_36 ?_
          refine lv_iload_n hx hb dX3_solve_39 rfl (lv_at hl 3 rfl) ?_
          obtain ⟨v9, i10, e11, h⟩ := fl_rd_b h
          refine g_ld (n := 8) (t0 := 4) hx hb hK hg (wm_a4 ad cz _) rfl i10 e11 dX3_solve_40 ?_
          obtain ⟨t13, hB15, h⟩ := fl_bnd h
          have J14 : ∀ (H : Heap) (locs : List Loc) (ls : Array Slot), gS D (wm ad cz) A s.heap σ H locs → lv_has ls 5 [(0, .ref (ad 0)), (1, .int (x1 + t6)), (3, .int x3)] → W p l e rm_X3_solve s m args below meth c H locs 0 0 Q (F0 m 55 ls [.int t13, .int x2]) := by
            intro H locs ls hg hl
            refine lv_iadd hx hb dX3_solve_55 ?_
            refine lv_istore_n (lv' := [(2, .int (x2 + t13)), (0, .ref (ad 0)), (1, .int (x1 + t6)), (3, .int x3)]) hx hb dX3_solve_56 rfl hl (by decide) rfl (fun ls hl => ?_)
            refine lv_iinc (v := (x3 + 1)) (lv' := [(3, .int (x3 + 1)), (2, .int (x2 + t13)), (0, .ref (ad 0)), (1, .int (x1 + t6))]) hx hb dX3_solve_57 hl (k := 3) rfl rfl (by decide) rfl (fun ls hl => ?_)
            refine lv_goto (tgt := 6) hx hb dX3_solve_60 (by decide) ?_
            exact ih _ _ _ _ _ _ _ _ _ h hg (lv_sub hl [2, 3, 1, 0] rfl) kk0
          clear h
          have h := hB15
          refine lv_if_ge (tgt := 54) hx hb dX3_solve_41 (by decide) (fun c12 => ?_) (fun c12 => ?_)
          · have h := fl_ifp c12 h
            refine lv_iconst (v := (0)) hx hb dX3_solve_54 (by decide) ?_
            obtain rfl := fl_s1 h
            exact J14 H locs ls hg (lv_sub hl [1, 0, 3] rfl)
          · have h := fl_ifn c12 h
            refine lv_aload_n hx hb dX3_solve_44 rfl (lv_at hl 1 rfl) ?_
            refine va_get (D := D) (ci := 3) (v := .ref (ad 5)) (C := RX3) (T := TX3) (N := 16) hx hb hts k_1 hown hK.1 hg.1 0 rfl rfl 5 (by decide) k_0 (fun _ h9 => h9) rfl dX3_solve_45 ?_
            refine lv_iload_n hx hb dX3_solve_48 rfl (lv_at hl 3 rfl) ?_
            obtain ⟨v16, i17, e18, h⟩ := fl_rd_b h
            refine g_ld (n := 8) (t0 := 4) hx hb hK hg (wm_a4 ad cz _) rfl i17 e18 dX3_solve_49 ?_
            refine lv_ineg hx hb dX3_solve_50 ?_
            refine lv_goto (tgt := 55) hx hb dX3_solve_51 (by decide) ?_
            obtain rfl := fl_s1 h
            exact J14 H locs ls hg (lv_sub hl [1, 0, 3] rfl)
        clear h
        have h := hB8
        refine lv_if_le (tgt := 31) hx hb dX3_solve_19 (by decide) (fun c5 => ?_) (fun c5 => ?_)
        · have h := fl_ifp c5 h
          refine lv_iconst (v := (0)) hx hb dX3_solve_31 (by decide) ?_
          obtain rfl := fl_s1 h
          exact J7 H locs ls hg (lv_sub hl [0, 2, 3] rfl)
        · have h := fl_ifn c5 h
          refine lv_aload_n hx hb dX3_solve_22 rfl (lv_at hl 0 rfl) ?_
          refine va_get (D := D) (ci := 3) (v := .ref (ad 5)) (C := RX3) (T := TX3) (N := 16) hx hb hts k_1 hown hK.1 hg.1 0 rfl rfl 5 (by decide) k_0 (fun _ h9 => h9) rfl dX3_solve_23 ?_
          refine lv_iload_n hx hb dX3_solve_26 rfl (lv_at hl 3 rfl) ?_
          obtain ⟨v19, i20, e21, h⟩ := fl_rd_b h
          refine g_ld (n := 8) (t0 := 4) hx hb hK hg (wm_a4 ad cz _) rfl i20 e21 dX3_solve_27 ?_
          refine lv_goto (tgt := 32) hx hb dX3_solve_28 (by decide) ?_
          obtain rfl := fl_s1 h
          exact J7 H locs ls hg (lv_sub hl [0, 2, 3] rfl)
  have L98 : ∀ (n : Nat) (x3 : Int32) (σ : fl_St) (σo : fl_St) (H : Heap) (locs : List Loc) (ls : Array Slot), f_X3_solve_l98 n x3 σ = some (σo) → gS D (wm ad cz) A s.heap σ H locs → lv_has ls 5 [(0, .ref (ad 0)), (3, .int x3)] → (∀ (H : Heap) (locs : List Loc) (ls : Array Slot), gS D (wm ad cz) A s.heap σo H locs → lv_has ls 5 [(0, .ref (ad 0))] → W p l e rm_X3_solve s m args below meth c H locs 0 0 Q (F0 m 118 ls [])) → W p l e rm_X3_solve s m args below meth c H locs 0 0 Q (F0 m 98 ls []) := by
    intro n
    induction n with
    | zero =>
      intro x3 σ σo H locs ls h hg hl kk0
      rw [f_X3_solve_l98] at h
      cases h
    | succ n ih =>
      intro x3 σ σo H locs ls h hg hl kk0
      rw [f_X3_solve_l98] at h
      refine lv_iload_n hx hb dX3_solve_98 rfl (lv_at hl 1 rfl) ?_
      refine lv_ldc hx hb hown k_3 dX3_solve_99 ?_
      refine lv_icmp_eq (tgt := 118) hx hb dX3_solve_101 (by decide) (fun c37 => ?_) (fun c37 => ?_)
      · have h := fl_ifp c37 h
        obtain rfl := fl_s1 h
        exact kk0 H locs ls hg (lv_sub hl [0] rfl)
      · have h := fl_ifn c37 h
        refine lv_aload_n hx hb dX3_solve_104 rfl (lv_at hl 0 rfl) ?_
        refine lv_iload_n hx hb dX3_solve_105 rfl (lv_at hl 1 rfl) ?_
        obtain ⟨σ39, e38, h⟩ := fl_bnd h
        refine g_callVv (As := [.int x3]) (rest := []) ⟨hx, hb, hml, hown, hts⟩ (c_X3_goRound l D ad cz (x3) (σ) e38) (cwV 1 hts gX3_solve_X3_goRound rfl rfl rfl (by decide +kernel) ⟨Nat.le_of_ble_eq_true rfl, Nat.le_of_ble_eq_true rfl⟩) (va_recv hK.1 hg.1 (ci := 3) (q0 := 0) rfl rfl) hK hA hg rfl hl.1 rfl (Nat.le_of_ble_eq_true rfl) dX3_solve_106 ⟨Nat.le_of_ble_eq_true rfl, Nat.le_of_ble_eq_true rfl⟩ (fun H locs hg => ?_)
        refine lv_aload_n hx hb dX3_solve_109 rfl (lv_at hl 0 rfl) ?_
        refine lv_iconst (v := (0)) hx hb dX3_solve_110 (by decide) ?_
        obtain ⟨r41, σ42, e40, h⟩ := fl_b2_b h
        refine g_callVi (As := [.int (0)]) (rest := []) ⟨hx, hb, hml, hown, hts⟩ (c_X3_findRound l D ad cz ((0)) (σ39) e40) (cwV 1 hts gX3_solve_X3_findRound rfl rfl rfl (by decide +kernel) ⟨Nat.le_of_ble_eq_true rfl, Nat.le_of_ble_eq_true rfl⟩) (va_recv hK.1 hg.1 (ci := 3) (q0 := 0) rfl rfl) hK hA hg rfl hl.1 rfl (Nat.le_of_ble_eq_true rfl) dX3_solve_111 ⟨Nat.le_of_ble_eq_true rfl, Nat.le_of_ble_eq_true rfl⟩ (fun H locs hg => ?_)
        refine lv_istore_n (lv' := [(3, .int r41), (0, .ref (ad 0))]) hx hb dX3_solve_114 rfl hl (by decide) rfl (fun ls hl => ?_)
        refine lv_goto (tgt := 98) hx hb dX3_solve_115 (by decide) ?_
        exact ih _ _ _ _ _ _ h hg (lv_sub hl [1, 0] rfl) kk0
  have L126 : ∀ (n : Nat) (x4 : Int32) (σ : fl_St) (σo : fl_St) (H : Heap) (locs : List Loc) (ls : Array Slot), f_X3_solve_l126 n x4 σ = some (σo) → gS D (wm ad cz) A s.heap σ H locs → lv_has ls 5 [(0, .ref (ad 0)), (4, .int x4)] → (∀ (H : Heap) (locs : List Loc) (ls : Array Slot), gS D (wm ad cz) A s.heap σo H locs → lv_has ls 5 [] → W p l e rm_X3_solve s m args below meth c H locs 0 0 Q (F0 m 165 ls [])) → W p l e rm_X3_solve s m args below meth c H locs 0 0 Q (F0 m 126 ls []) := by
    intro n
    induction n with
    | zero =>
      intro x4 σ σo H locs ls h hg hl kk0
      rw [f_X3_solve_l126] at h
      cases h
    | succ n ih =>
      intro x4 σ σo H locs ls h hg hl kk0
      rw [f_X3_solve_l126] at h
      refine lv_iload hx hb dX3_solve_126 (lv_at hl 1 rfl) ?_
      refine lv_aload_n hx hb dX3_solve_128 rfl (lv_at hl 0 rfl) ?_
      refine va_get (D := D) (ci := 3) (v := .int (σ 13 0)) (C := RX3) (T := TX3) (N := 16) hx hb hts k_1 hown hK.1 hg.1 0 rfl rfl 0 (by decide) k_5 (fun _ h9 => h9) rfl dX3_solve_129 ?_
      refine lv_icmp_ge (tgt := 165) hx hb dX3_solve_132 (by decide) (fun c47 => ?_) (fun c47 => ?_)
      · have h := fl_ifp c47 h
        obtain rfl := fl_s1 h
        exact kk0 H locs ls hg (lv_sub hl [] rfl)
      · have h := fl_ifn c47 h
        refine lv_aload_n hx hb dX3_solve_135 rfl (lv_at hl 0 rfl) ?_
        refine lv_dup hx hb dX3_solve_136 rfl ?_
        refine va_get (D := D) (ci := 3) (v := .int (σ 13 2)) (C := RX3) (T := TX3) (N := 16) hx hb hts k_1 hown hK.1 hg.1 0 rfl rfl 13 (by decide) k_4 (fun _ h9 => h9) rfl dX3_solve_137 ?_
        refine lv_aload_n hx hb dX3_solve_140 rfl (lv_at hl 0 rfl) ?_
        refine va_get (D := D) (ci := 3) (v := .ref (ad 6)) (C := RX3) (T := TX3) (N := 16) hx hb hts k_1 hown hK.1 hg.1 0 rfl rfl 6 (by decide) k_6 (fun _ h9 => h9) rfl dX3_solve_141 ?_
        refine lv_iload hx hb dX3_solve_144 (lv_at hl 1 rfl) ?_
        obtain ⟨v48, i49, e50, h⟩ := fl_rd_b h
        refine g_ld (n := 36) (t0 := 5) hx hb hK hg (wm_a5 ad cz _) rfl i49 e50 dX3_solve_146 ?_
        refine lv_aload_n hx hb dX3_solve_147 rfl (lv_at hl 0 rfl) ?_
        refine va_get (D := D) (ci := 3) (v := .ref (ad 4)) (C := RX3) (T := TX3) (N := 16) hx hb hts k_1 hown hK.1 hg.1 0 rfl rfl 4 (by decide) k_7 (fun _ h9 => h9) rfl dX3_solve_148 ?_
        refine lv_iload hx hb dX3_solve_151 (lv_at hl 1 rfl) ?_
        obtain ⟨v51, i52, e53, h⟩ := fl_rd_b h
        refine g_ld (n := 36) (t0 := 3) hx hb hK hg (wm_a3 ad cz _) rfl i52 e53 dX3_solve_153 ?_
        refine lv_imul hx hb dX3_solve_154 ?_
        refine lv_iadd hx hb dX3_solve_155 ?_
        obtain ⟨σ54, e55, h⟩ := fl_bnd h
        have e55 := fl_s1 e55
        refine g_put (σ' := σ54) (ci := 3) (C := RX3) (T := TX3) (N := 16) (z := ((σ 13 2) + (v48 * v51))) hx hb hts k_1 tyX3 tyX3_ok nmX3 hown hK hg 0 rfl rfl 13 (by decide) k_4 (fun _ h9 => h9) rfl (by decide +kernel) (Nat.le_of_ble_eq_true rfl) (by rw [← e55]; exact wm_c2 ad cz _ _) dX3_solve_156 (fun H locs hg => ?_)
        refine lv_iinc (v := (x4 + 1)) (lv' := [(4, .int (x4 + 1)), (0, .ref (ad 0))]) hx hb dX3_solve_159 hl (k := 1) rfl rfl (by decide) rfl (fun ls hl => ?_)
        refine lv_goto (tgt := 126) hx hb dX3_solve_162 (by decide) ?_
        exact ih _ _ _ _ _ _ h hg (lv_sub hl [1, 0] rfl) kk0
  unfold f_X3_solve at h
  have W0 : ∀ (H : Heap) (locs : List Loc), gS D (wm ad cz) A s.heap σ H locs → W p l e rm_X3_solve s m args below meth c H locs 0 0 Q (F0 m 0 ls []) := by
    intro H locs hg
    refine lv_iconst (v := (0)) hx hb dX3_solve_0 (by decide) ?_
    refine lv_istore_n (lv' := [(1, .int (0)), (0, .ref (ad 0))]) hx hb dX3_solve_1 rfl hl (by decide) rfl (fun ls hl => ?_)
    refine lv_iconst (v := (0)) hx hb dX3_solve_2 (by decide) ?_
    refine lv_istore_n (lv' := [(2, .int (0)), (1, .int (0)), (0, .ref (ad 0))]) hx hb dX3_solve_3 rfl hl (by decide) rfl (fun ls hl => ?_)
    refine lv_iconst (v := (0)) hx hb dX3_solve_4 (by decide) ?_
    refine lv_istore_n (lv' := [(3, .int (0)), (2, .int (0)), (1, .int (0)), (0, .ref (ad 0))]) hx hb dX3_solve_5 rfl hl (by decide) rfl (fun ls hl => ?_)
    obtain ⟨w22, w23, hB24, h⟩ := fl_b2_b h
    refine L6 fl_N _ _ _ _ _ _ H locs ls hB24 hg (lv_sub hl [3, 2, 1, 0] rfl) (fun H locs ls hg hl => ?_)
    refine lv_iload_n hx hb dX3_solve_63 rfl (lv_at hl 1 rfl) ?_
    refine lv_iload_n hx hb dX3_solve_64 rfl (lv_at hl 2 rfl) ?_
    refine lv_icmp_ne (tgt := 76) hx hb dX3_solve_65 (by decide) (fun c25 => ?_) (fun c25 => ?_)
    · have h := fl_ifn c25 h
      refine lv_ldc hx hb hown k_2 dX3_solve_76 ?_
      exact hret _ _ _ _ _ _ h hg rfl dX3_solve_78
    · have h := fl_ifp c25 h
      refine lv_aload_n hx hb dX3_solve_68 rfl (lv_at hl 0 rfl) ?_
      obtain ⟨r27, σ28, e26, h⟩ := fl_b2_b h
      refine g_callVi (As := []) (rest := []) ⟨hx, hb, hml, hown, hts⟩ (c_X3_fill l D ad cz (σ) e26) (cwV 0 hts gX3_solve_X3_fill rfl rfl rfl (by decide +kernel) ⟨Nat.le_of_ble_eq_true rfl, Nat.le_of_ble_eq_true rfl⟩) (va_recv hK.1 hg.1 (ci := 3) (q0 := 0) rfl rfl) hK hA hg rfl hl.1 rfl (Nat.le_of_ble_eq_true rfl) dX3_solve_69 ⟨Nat.le_of_ble_eq_true rfl, Nat.le_of_ble_eq_true rfl⟩ (fun H locs hg => ?_)
      refine lv_iload_n hx hb dX3_solve_72 rfl (lv_at hl 1 rfl) ?_
      refine lv_icmp_eq (tgt := 79) hx hb dX3_solve_73 (by decide) (fun c29 => ?_) (fun c29 => ?_)
      · have h := fl_ifp c29 h
        refine lv_aload_n hx hb dX3_solve_79 rfl (lv_at hl 0 rfl) ?_
        refine lv_iconst (v := (1)) hx hb dX3_solve_80 (by decide) ?_
        obtain ⟨r31, σ32, e30, h⟩ := fl_b2_b h
        refine g_callVi (As := [.int (1)]) (rest := []) ⟨hx, hb, hml, hown, hts⟩ (c_X3_findRound l D ad cz ((1)) (σ28) e30) (cwV 1 hts gX3_solve_X3_findRound rfl rfl rfl (by decide +kernel) ⟨Nat.le_of_ble_eq_true rfl, Nat.le_of_ble_eq_true rfl⟩) (va_recv hK.1 hg.1 (ci := 3) (q0 := 0) rfl rfl) hK hA hg rfl hl.1 rfl (Nat.le_of_ble_eq_true rfl) dX3_solve_81 ⟨Nat.le_of_ble_eq_true rfl, Nat.le_of_ble_eq_true rfl⟩ (fun H locs hg => ?_)
        refine lv_ldc hx hb hown k_3 dX3_solve_84 ?_
        refine lv_icmp_eq (tgt := 92) hx hb dX3_solve_86 (by decide) (fun c33 => ?_) (fun c33 => ?_)
        · have h := fl_ifp c33 h
          refine lv_aload_n hx hb dX3_solve_92 rfl (lv_at hl 0 rfl) ?_
          refine lv_iconst (v := (0)) hx hb dX3_solve_93 (by decide) ?_
          obtain ⟨r35, σ36, e34, h⟩ := fl_b2_b h
          refine g_callVi (As := [.int (0)]) (rest := []) ⟨hx, hb, hml, hown, hts⟩ (c_X3_findRound l D ad cz ((0)) (σ32) e34) (cwV 1 hts gX3_solve_X3_findRound rfl rfl rfl (by decide +kernel) ⟨Nat.le_of_ble_eq_true rfl, Nat.le_of_ble_eq_true rfl⟩) (va_recv hK.1 hg.1 (ci := 3) (q0 := 0) rfl rfl) hK hA hg rfl hl.1 rfl (Nat.le_of_ble_eq_true rfl) dX3_solve_94 ⟨Nat.le_of_ble_eq_true rfl, Nat.le_of_ble_eq_true rfl⟩ (fun H locs hg => ?_)
          refine lv_istore_n (lv' := [(3, .int r35), (0, .ref (ad 0)), (1, .int w22), (2, .int w23)]) hx hb dX3_solve_97 rfl hl (by decide) rfl (fun ls hl => ?_)
          obtain ⟨σ43, hB44, h⟩ := fl_bnd h
          refine L98 fl_N _ _ _ H locs ls hB44 hg (lv_sub hl [1, 0] rfl) (fun H locs ls hg hl => ?_)
          refine lv_aload_n hx hb dX3_solve_118 rfl (lv_at hl 0 rfl) ?_
          refine lv_iconst (v := (0)) hx hb dX3_solve_119 (by decide) ?_
          obtain ⟨σ45, e46, h⟩ := fl_bnd h
          have e46 := fl_s1 e46
          refine g_put (σ' := σ45) (ci := 3) (C := RX3) (T := TX3) (N := 16) (z := (0)) hx hb hts k_1 tyX3 tyX3_ok nmX3 hown hK hg 0 rfl rfl 13 (by decide) k_4 (fun _ h9 => h9) rfl (by decide +kernel) (Nat.le_of_ble_eq_true rfl) (by rw [← e46]; exact wm_c2 ad cz _ _) dX3_solve_120 (fun H locs hg => ?_)
          refine lv_iconst (v := (0)) hx hb dX3_solve_123 (by decide) ?_
          refine lv_istore (lv' := [(4, .int (0)), (0, .ref (ad 0))]) hx hb dX3_solve_124 hl (by decide) rfl (fun ls hl => ?_)
          obtain ⟨σ56, hB57, h⟩ := fl_bnd h
          refine L126 fl_N _ _ _ H locs ls hB57 hg (lv_sub hl [1, 0] rfl) (fun H locs ls hg hl => ?_)
          refine lv_iconst (v := (0)) hx hb dX3_solve_165 (by decide) ?_
          exact hret _ _ _ _ _ _ h hg rfl dX3_solve_166
        · have h := fl_ifn c33 h
          refine lv_ldc hx hb hown k_8 dX3_solve_89 ?_
          exact hret _ _ _ _ _ _ h hg rfl dX3_solve_91
      · have h := fl_ifn c29 h
        refine lv_ldc hx hb hown k_2 dX3_solve_76 ?_
        exact hret _ _ _ _ _ _ h hg rfl dX3_solve_78
  exact W0 _ _ hg
def f_X3_state (σ : fl_St) : Option (Int32 × fl_St) := fl_b2 (f_X3_solve  σ) fun r2 σ3 => some (r2, σ3)
def rm_X3_state : Room := { frames := 5, cells := 0, slots := 0, locals := 124 }
set_option maxHeartbeats 4000000 in
set_option maxRecDepth 100000 in
theorem c_X3_state (l : Launch) (D : va_G) (ad : Nat → Nat) (cz : Nat → ClassId) (σ : fl_St) {r : Int32} {σ' : fl_St} (h : f_X3_state σ = some (r, σ')) : gMi l yX3_state wsX3_state rm_X3_state D (wm ad cz) (wmT cz) [] [.ref (ad 0)] σ r σ' := by
  refine gMi_of (cc := cX3_state) (maxL := 1) (by decide) rfl (Nat.le_of_ble_eq_true rfl) ?_
  intro p e s m args below meth c A Q ls hx hb hml hown hts hK hA hg hl hret
  have hown : s.vm.findClass RX3 = some m.cls := hown
  have hl : lv_has ls 1 [(0, .ref (ad 0))] := hl
  unfold f_X3_state at h
  have W0 : ∀ (H : Heap) (locs : List Loc), gS D (wm ad cz) A s.heap σ H locs → W p l e rm_X3_state s m args below meth c H locs 0 0 Q (F0 m 0 ls []) := by
    intro H locs hg
    refine lv_aload_n hx hb dX3_state_0 rfl (lv_at hl 0 rfl) ?_
    obtain ⟨r2, σ3, e1, h⟩ := fl_b2_b h
    refine g_callVi (As := []) (rest := []) ⟨hx, hb, hml, hown, hts⟩ (c_X3_solve l D ad cz (σ) e1) (cwV 0 hts gX3_state_X3_solve rfl rfl rfl (by decide +kernel) ⟨Nat.le_of_ble_eq_true rfl, Nat.le_of_ble_eq_true rfl⟩) (va_recv hK.1 hg.1 (ci := 3) (q0 := 0) rfl rfl) hK hA hg rfl hl.1 rfl (Nat.le_of_ble_eq_true rfl) dX3_state_1 ⟨Nat.le_of_ble_eq_true rfl, Nat.le_of_ble_eq_true rfl⟩ (fun H locs hg => ?_)
    exact hret _ _ _ _ _ _ h hg rfl dX3_state_4
  exact W0 _ _ hg
def f_X3_cost (σ : fl_St) : Option (Int32 × fl_St) := fl_b2 (f_X3_solve  σ) fun r2 σ3 => (if 0 ≤ r2 then (some ((σ3 13 2))) else (some (r2))).bind fun (t5 : Int32) => some (t5, σ3)
def rm_X3_cost : Room := { frames := 5, cells := 0, slots := 0, locals := 124 }
set_option maxHeartbeats 4000000 in
set_option maxRecDepth 100000 in
theorem c_X3_cost (l : Launch) (D : va_G) (ad : Nat → Nat) (cz : Nat → ClassId) (σ : fl_St) {r : Int32} {σ' : fl_St} (h : f_X3_cost σ = some (r, σ')) : gMi l yX3_cost wsX3_cost rm_X3_cost D (wm ad cz) (wmT cz) [] [.ref (ad 0)] σ r σ' := by
  refine gMi_of (cc := cX3_cost) (maxL := 2) (by decide) rfl (Nat.le_of_ble_eq_true rfl) ?_
  intro p e s m args below meth c A Q ls hx hb hml hown hts hK hA hg hl hret
  have hown : s.vm.findClass RX3 = some m.cls := hown
  have hl : lv_has ls 2 [(0, .ref (ad 0))] := hl
  have k_0 := hts (.fieldLink RX3 100 "FlowLedgerModel" "total" "I") (by decide +kernel)
  have k_1 := (by decide +kernel : ∀ w ∈ wsX30, w ∈ wsX3_cost)
  unfold f_X3_cost at h
  have W0 : ∀ (H : Heap) (locs : List Loc), gS D (wm ad cz) A s.heap σ H locs → W p l e rm_X3_cost s m args below meth c H locs 0 0 Q (F0 m 0 ls []) := by
    intro H locs hg
    refine lv_aload_n hx hb dX3_cost_0 rfl (lv_at hl 0 rfl) ?_
    obtain ⟨r2, σ3, e1, h⟩ := fl_b2_b h
    refine g_callVi (As := []) (rest := []) ⟨hx, hb, hml, hown, hts⟩ (c_X3_solve l D ad cz (σ) e1) (cwV 0 hts gX3_cost_X3_solve rfl rfl rfl (by decide +kernel) ⟨Nat.le_of_ble_eq_true rfl, Nat.le_of_ble_eq_true rfl⟩) (va_recv hK.1 hg.1 (ci := 3) (q0 := 0) rfl rfl) hK hA hg rfl hl.1 rfl (Nat.le_of_ble_eq_true rfl) dX3_cost_1 ⟨Nat.le_of_ble_eq_true rfl, Nat.le_of_ble_eq_true rfl⟩ (fun H locs hg => ?_)
    refine lv_istore_n (lv' := [(1, .int r2), (0, .ref (ad 0))]) hx hb dX3_cost_4 rfl hl (by decide) rfl (fun ls hl => ?_)
    refine lv_iload_n hx hb dX3_cost_5 rfl (lv_at hl 0 rfl) ?_
    obtain ⟨t5, hB7, h⟩ := fl_bnd h
    have J6 : ∀ (H : Heap) (locs : List Loc) (ls : Array Slot), gS D (wm ad cz) A s.heap σ3 H locs → lv_has ls 2 [] → W p l e rm_X3_cost s m args below meth c H locs 0 0 Q (F0 m 17 ls [.int t5]) := by
      intro H locs ls hg hl
      exact hret _ _ _ _ _ _ h hg rfl dX3_cost_17
    clear h
    have h := hB7
    refine lv_if_ge (tgt := 13) hx hb dX3_cost_6 (by decide) (fun c4 => ?_) (fun c4 => ?_)
    · have h := fl_ifp c4 h
      refine lv_aload_n hx hb dX3_cost_13 rfl (lv_at hl 1 rfl) ?_
      refine va_get (D := D) (ci := 3) (v := .int (σ3 13 2)) (C := RX3) (T := TX3) (N := 16) hx hb hts k_1 hown hK.1 hg.1 0 rfl rfl 13 (by decide) k_0 (fun _ h9 => h9) rfl dX3_cost_14 ?_
      obtain rfl := fl_s1 h
      exact J6 H locs ls hg (lv_sub hl [] rfl)
    · have h := fl_ifn c4 h
      refine lv_iload_n hx hb dX3_cost_9 rfl (lv_at hl 0 rfl) ?_
      refine lv_goto (tgt := 17) hx hb dX3_cost_10 (by decide) ?_
      obtain rfl := fl_s1 h
      exact J6 H locs ls hg (lv_sub hl [] rfl)
  exact W0 _ _ hg
