/-! the law: one call of each kind -/
section LO
variable {p : Program} {l : Launch} {e : Env} {s : State} {m : MethodId} {below : List Frame} {meth : Method} {c : Code} {D : va_G} {ad bd : Nat → Nat} {cz dz : Nat → ClassId} {b L : Nat} {xs : Nat → Int32} {H : Heap} {locs : List Loc} {ls : Array Slot} {x3 : Int32} {σ τ : fl_St}
def lw_L (ad bd : Nat → Nat) (b : Nat) (x3 : Int32) : List (Nat × Value) := [(0, .ref b), (1, .ref (ad 0)), (2, .ref (bd 0)), (3, .int x3)]
def lw_K (D : va_G) (cz dz : Nat → ClassId) (s : State) : Prop := gK D (wcT cz) wcN s ∧ gK D (wmT dz) [] s
set_option maxHeartbeats 4000000 in
set_option maxRecDepth 100000 in
theorem lw_op0 (C0 : lw_At p s m meth c b L xs) (hK : lw_K D cz dz s) (hv : ∀ v : Int32, v = 1 ∨ v = 2 ∨ v = 3 ∨ v = 4 → vp_in (x3 + v) L) (hl : lv_has ls 4 (lw_L ad bd b x3)) (hag : ag σ τ) (hg : gL D ad cz bd dz (fun q : Nat => s.heap.size ≤ q) s.heap σ τ H locs) (kk : ∀ (σ τ : fl_St) (H : Heap) (locs : List Loc), ag σ τ → gL D ad cz bd dz (fun q : Nat => s.heap.size ≤ q) s.heap σ τ H locs → W p l e room_1 s m #[Value.ref b] below meth c H locs 29 614 (lw_Z below #[Value.ref b] s) (F0 m 407 ls [])) : W p l e room_1 s m #[Value.ref b] below meth c H locs 29 614 (lw_Z below #[Value.ref b] s) (F0 m 100 ls []) := by
  obtain ⟨hx, hb, hr, hml, hown, hts0, hX, hbl, hlocks, hgv⟩ := C0
  have hts : ∀ w ∈ wsL_law, w.before #[Value.ref b] s = true := fun w h => hts0 w (wsL_law_in w h)
  have hA : ∀ q : Nat, s.heap.size ≤ q → (fun q : Nat => s.heap.size ≤ q) q := fun _ h => h
  have hbA : ¬ (fun q : Nat => s.heap.size ≤ q) b := Nat.not_le.mpr hbl
  obtain ⟨r, σ', τ', e1, e2, hag⟩ := ag_add (xs (x3 + 1).toNatClampNeg) (xs (x3 + 2).toNatClampNeg) (xs (x3 + 3).toNatClampNeg) (xs (x3 + 4).toNatClampNeg) hag
  refine lv_aload_n hx hb dL_law_100 rfl (lv_at hl 1 rfl) ?_
  refine h_arg (k := 1) (v := 1) (j0 := 0) (j3 := 3) hx hb hX hbl hbA hg.2.2 hl rfl rfl (by decide) (hv 1 (by decide)) dL_law_101 dL_law_102 dL_law_103 dL_law_104 dL_law_105 ?_
  refine h_arg (k := 2) (v := 2) (j0 := 0) (j3 := 3) hx hb hX hbl hbA hg.2.2 hl rfl rfl (by decide) (hv 2 (by decide)) dL_law_106 dL_law_107 dL_law_108 dL_law_109 dL_law_110 ?_
  refine h_arg (k := 3) (v := 3) (j0 := 0) (j3 := 3) hx hb hX hbl hbA hg.2.2 hl rfl rfl (by decide) (hv 3 (by decide)) dL_law_111 dL_law_112 dL_law_113 dL_law_114 dL_law_115 ?_
  refine h_arg (k := 4) (v := 4) (j0 := 0) (j3 := 3) hx hb hX hbl hbA hg.2.2 hl rfl rfl (by decide) (hv 4 (by decide)) dL_law_116 dL_law_117 dL_law_118 dL_law_119 dL_law_120 ?_
  refine h_ci (As := [.int (xs (x3 + 1).toNatClampNeg), .int (xs (x3 + 2).toNatClampNeg), .int (xs (x3 + 3).toNatClampNeg), .int (xs (x3 + 4).toNatClampNeg)]) (rest := []) ⟨hx, hb, hml, hown, hts⟩ (c_X2_add l D ad cz (xs (x3 + 1).toNatClampNeg) (xs (x3 + 2).toNatClampNeg) (xs (x3 + 3).toNatClampNeg) (xs (x3 + 4).toNatClampNeg) σ e1) (cwV 4 hts gL_law_X2_add rfl rfl rfl (by decide +kernel) ⟨Nat.le_of_ble_eq_true rfl, Nat.le_of_ble_eq_true rfl⟩) hK.1 hA hg rfl hl.1 rfl (Nat.le_of_ble_eq_true rfl) dL_law_121 ⟨Nat.le_of_ble_eq_true rfl, Nat.le_of_ble_eq_true rfl⟩ (fun H locs hg => ?_)
  refine lv_aload_n hx hb dL_law_124 rfl (lv_at hl 2 rfl) ?_
  refine h_arg (k := 1) (v := 1) (j0 := 0) (j3 := 3) hx hb hX hbl hbA hg.2.2 hl rfl rfl (by decide) (hv 1 (by decide)) dL_law_125 dL_law_126 dL_law_127 dL_law_128 dL_law_129 ?_
  refine h_arg (k := 2) (v := 2) (j0 := 0) (j3 := 3) hx hb hX hbl hbA hg.2.2 hl rfl rfl (by decide) (hv 2 (by decide)) dL_law_130 dL_law_131 dL_law_132 dL_law_133 dL_law_134 ?_
  refine h_arg (k := 3) (v := 3) (j0 := 0) (j3 := 3) hx hb hX hbl hbA hg.2.2 hl rfl rfl (by decide) (hv 3 (by decide)) dL_law_135 dL_law_136 dL_law_137 dL_law_138 dL_law_139 ?_
  refine h_arg (k := 4) (v := 4) (j0 := 0) (j3 := 3) hx hb hX hbl hbA hg.2.2 hl rfl rfl (by decide) (hv 4 (by decide)) dL_law_140 dL_law_141 dL_law_142 dL_law_143 dL_law_144 ?_
  refine h_mi (As := [.int (xs (x3 + 1).toNatClampNeg), .int (xs (x3 + 2).toNatClampNeg), .int (xs (x3 + 3).toNatClampNeg), .int (xs (x3 + 4).toNatClampNeg)]) (rest := [.int r]) ⟨hx, hb, hml, hown, hts⟩ (c_X3_add l D bd dz (xs (x3 + 1).toNatClampNeg) (xs (x3 + 2).toNatClampNeg) (xs (x3 + 3).toNatClampNeg) (xs (x3 + 4).toNatClampNeg) τ e2) (cwV 4 hts gL_law_X3_add rfl rfl rfl (by decide +kernel) ⟨Nat.le_of_ble_eq_true rfl, Nat.le_of_ble_eq_true rfl⟩) hK.2 hA hg rfl hl.1 rfl (Nat.le_of_ble_eq_true rfl) dL_law_145 ⟨Nat.le_of_ble_eq_true rfl, Nat.le_of_ble_eq_true rfl⟩ (fun H locs hg => ?_)
  refine lv_icmp_eq (tgt := 407) hx hb dL_law_148 (by decide) (fun _ => ?_) (fun c1 => absurd rfl c1)
  exact kk _ _ _ _ hag hg
set_option maxHeartbeats 4000000 in
set_option maxRecDepth 100000 in
theorem lw_op1 (C0 : lw_At p s m meth c b L xs) (hK : lw_K D cz dz s) (hv : ∀ v : Int32, v = 1 ∨ v = 2 ∨ v = 3 ∨ v = 4 → vp_in (x3 + v) L) (hl : lv_has ls 4 (lw_L ad bd b x3)) (hag : ag σ τ) (hg : gL D ad cz bd dz (fun q : Nat => s.heap.size ≤ q) s.heap σ τ H locs) (kk : ∀ (σ τ : fl_St) (H : Heap) (locs : List Loc), ag σ τ → gL D ad cz bd dz (fun q : Nat => s.heap.size ≤ q) s.heap σ τ H locs → W p l e room_1 s m #[Value.ref b] below meth c H locs 29 614 (lw_Z below #[Value.ref b] s) (F0 m 407 ls [])) : W p l e room_1 s m #[Value.ref b] below meth c H locs 29 614 (lw_Z below #[Value.ref b] s) (F0 m 153 ls []) := by
  obtain ⟨hx, hb, hr, hml, hown, hts0, hX, hbl, hlocks, hgv⟩ := C0
  have hts : ∀ w ∈ wsL_law, w.before #[Value.ref b] s = true := fun w h => hts0 w (wsL_law_in w h)
  have hA : ∀ q : Nat, s.heap.size ≤ q → (fun q : Nat => s.heap.size ≤ q) q := fun _ h => h
  have hbA : ¬ (fun q : Nat => s.heap.size ≤ q) b := Nat.not_le.mpr hbl
  obtain ⟨r, σ', τ', e1, e2, hag⟩ := ag_change (xs (x3 + 1).toNatClampNeg) (xs (x3 + 2).toNatClampNeg) (xs (x3 + 3).toNatClampNeg) hag
  refine lv_aload_n hx hb dL_law_153 rfl (lv_at hl 1 rfl) ?_
  refine h_arg (k := 1) (v := 1) (j0 := 0) (j3 := 3) hx hb hX hbl hbA hg.2.2 hl rfl rfl (by decide) (hv 1 (by decide)) dL_law_154 dL_law_155 dL_law_156 dL_law_157 dL_law_158 ?_
  refine h_arg (k := 2) (v := 2) (j0 := 0) (j3 := 3) hx hb hX hbl hbA hg.2.2 hl rfl rfl (by decide) (hv 2 (by decide)) dL_law_159 dL_law_160 dL_law_161 dL_law_162 dL_law_163 ?_
  refine h_arg (k := 3) (v := 3) (j0 := 0) (j3 := 3) hx hb hX hbl hbA hg.2.2 hl rfl rfl (by decide) (hv 3 (by decide)) dL_law_164 dL_law_165 dL_law_166 dL_law_167 dL_law_168 ?_
  refine h_ci (As := [.int (xs (x3 + 1).toNatClampNeg), .int (xs (x3 + 2).toNatClampNeg), .int (xs (x3 + 3).toNatClampNeg)]) (rest := []) ⟨hx, hb, hml, hown, hts⟩ (c_X2_change l D ad cz (xs (x3 + 1).toNatClampNeg) (xs (x3 + 2).toNatClampNeg) (xs (x3 + 3).toNatClampNeg) σ e1) (cwV 3 hts gL_law_X2_change rfl rfl rfl (by decide +kernel) ⟨Nat.le_of_ble_eq_true rfl, Nat.le_of_ble_eq_true rfl⟩) hK.1 hA hg rfl hl.1 rfl (Nat.le_of_ble_eq_true rfl) dL_law_169 ⟨Nat.le_of_ble_eq_true rfl, Nat.le_of_ble_eq_true rfl⟩ (fun H locs hg => ?_)
  refine lv_aload_n hx hb dL_law_172 rfl (lv_at hl 2 rfl) ?_
  refine h_arg (k := 1) (v := 1) (j0 := 0) (j3 := 3) hx hb hX hbl hbA hg.2.2 hl rfl rfl (by decide) (hv 1 (by decide)) dL_law_173 dL_law_174 dL_law_175 dL_law_176 dL_law_177 ?_
  refine h_arg (k := 2) (v := 2) (j0 := 0) (j3 := 3) hx hb hX hbl hbA hg.2.2 hl rfl rfl (by decide) (hv 2 (by decide)) dL_law_178 dL_law_179 dL_law_180 dL_law_181 dL_law_182 ?_
  refine h_arg (k := 3) (v := 3) (j0 := 0) (j3 := 3) hx hb hX hbl hbA hg.2.2 hl rfl rfl (by decide) (hv 3 (by decide)) dL_law_183 dL_law_184 dL_law_185 dL_law_186 dL_law_187 ?_
  refine h_mi (As := [.int (xs (x3 + 1).toNatClampNeg), .int (xs (x3 + 2).toNatClampNeg), .int (xs (x3 + 3).toNatClampNeg)]) (rest := [.int r]) ⟨hx, hb, hml, hown, hts⟩ (c_X3_change l D bd dz (xs (x3 + 1).toNatClampNeg) (xs (x3 + 2).toNatClampNeg) (xs (x3 + 3).toNatClampNeg) τ e2) (cwV 3 hts gL_law_X3_change rfl rfl rfl (by decide +kernel) ⟨Nat.le_of_ble_eq_true rfl, Nat.le_of_ble_eq_true rfl⟩) hK.2 hA hg rfl hl.1 rfl (Nat.le_of_ble_eq_true rfl) dL_law_188 ⟨Nat.le_of_ble_eq_true rfl, Nat.le_of_ble_eq_true rfl⟩ (fun H locs hg => ?_)
  refine lv_icmp_eq (tgt := 407) hx hb dL_law_191 (by decide) (fun _ => ?_) (fun c1 => absurd rfl c1)
  exact kk _ _ _ _ hag hg
set_option maxHeartbeats 4000000 in
set_option maxRecDepth 100000 in
theorem lw_op2 (C0 : lw_At p s m meth c b L xs) (hK : lw_K D cz dz s) (hv : ∀ v : Int32, v = 1 ∨ v = 2 ∨ v = 3 ∨ v = 4 → vp_in (x3 + v) L) (hl : lv_has ls 4 (lw_L ad bd b x3)) (hag : ag σ τ) (hg : gL D ad cz bd dz (fun q : Nat => s.heap.size ≤ q) s.heap σ τ H locs) (kk : ∀ (σ τ : fl_St) (H : Heap) (locs : List Loc), ag σ τ → gL D ad cz bd dz (fun q : Nat => s.heap.size ≤ q) s.heap σ τ H locs → W p l e room_1 s m #[Value.ref b] below meth c H locs 29 614 (lw_Z below #[Value.ref b] s) (F0 m 407 ls [])) : W p l e room_1 s m #[Value.ref b] below meth c H locs 29 614 (lw_Z below #[Value.ref b] s) (F0 m 196 ls []) := by
  obtain ⟨hx, hb, hr, hml, hown, hts0, hX, hbl, hlocks, hgv⟩ := C0
  have hts : ∀ w ∈ wsL_law, w.before #[Value.ref b] s = true := fun w h => hts0 w (wsL_law_in w h)
  have hA : ∀ q : Nat, s.heap.size ≤ q → (fun q : Nat => s.heap.size ≤ q) q := fun _ h => h
  have hbA : ¬ (fun q : Nat => s.heap.size ≤ q) b := Nat.not_le.mpr hbl
  obtain ⟨r, σ', τ', e1, e2, hag⟩ := ag_supply (xs (x3 + 1).toNatClampNeg) (xs (x3 + 2).toNatClampNeg) hag
  refine lv_aload_n hx hb dL_law_196 rfl (lv_at hl 1 rfl) ?_
  refine h_arg (k := 1) (v := 1) (j0 := 0) (j3 := 3) hx hb hX hbl hbA hg.2.2 hl rfl rfl (by decide) (hv 1 (by decide)) dL_law_197 dL_law_198 dL_law_199 dL_law_200 dL_law_201 ?_
  refine h_arg (k := 2) (v := 2) (j0 := 0) (j3 := 3) hx hb hX hbl hbA hg.2.2 hl rfl rfl (by decide) (hv 2 (by decide)) dL_law_202 dL_law_203 dL_law_204 dL_law_205 dL_law_206 ?_
  refine h_ci (As := [.int (xs (x3 + 1).toNatClampNeg), .int (xs (x3 + 2).toNatClampNeg)]) (rest := []) ⟨hx, hb, hml, hown, hts⟩ (c_X2_supply l D ad cz (xs (x3 + 1).toNatClampNeg) (xs (x3 + 2).toNatClampNeg) σ e1) (cwV 2 hts gL_law_X2_supply rfl rfl rfl (by decide +kernel) ⟨Nat.le_of_ble_eq_true rfl, Nat.le_of_ble_eq_true rfl⟩) hK.1 hA hg rfl hl.1 rfl (Nat.le_of_ble_eq_true rfl) dL_law_207 ⟨Nat.le_of_ble_eq_true rfl, Nat.le_of_ble_eq_true rfl⟩ (fun H locs hg => ?_)
  refine lv_aload_n hx hb dL_law_210 rfl (lv_at hl 2 rfl) ?_
  refine h_arg (k := 1) (v := 1) (j0 := 0) (j3 := 3) hx hb hX hbl hbA hg.2.2 hl rfl rfl (by decide) (hv 1 (by decide)) dL_law_211 dL_law_212 dL_law_213 dL_law_214 dL_law_215 ?_
  refine h_arg (k := 2) (v := 2) (j0 := 0) (j3 := 3) hx hb hX hbl hbA hg.2.2 hl rfl rfl (by decide) (hv 2 (by decide)) dL_law_216 dL_law_217 dL_law_218 dL_law_219 dL_law_220 ?_
  refine h_mi (As := [.int (xs (x3 + 1).toNatClampNeg), .int (xs (x3 + 2).toNatClampNeg)]) (rest := [.int r]) ⟨hx, hb, hml, hown, hts⟩ (c_X3_supply l D bd dz (xs (x3 + 1).toNatClampNeg) (xs (x3 + 2).toNatClampNeg) τ e2) (cwV 2 hts gL_law_X3_supply rfl rfl rfl (by decide +kernel) ⟨Nat.le_of_ble_eq_true rfl, Nat.le_of_ble_eq_true rfl⟩) hK.2 hA hg rfl hl.1 rfl (Nat.le_of_ble_eq_true rfl) dL_law_221 ⟨Nat.le_of_ble_eq_true rfl, Nat.le_of_ble_eq_true rfl⟩ (fun H locs hg => ?_)
  refine lv_icmp_eq (tgt := 407) hx hb dL_law_224 (by decide) (fun _ => ?_) (fun c1 => absurd rfl c1)
  exact kk _ _ _ _ hag hg
set_option maxHeartbeats 4000000 in
set_option maxRecDepth 100000 in
theorem lw_op3 (C0 : lw_At p s m meth c b L xs) (hK : lw_K D cz dz s) (hv : ∀ v : Int32, v = 1 ∨ v = 2 ∨ v = 3 ∨ v = 4 → vp_in (x3 + v) L) (hl : lv_has ls 4 (lw_L ad bd b x3)) (hag : ag σ τ) (hg : gL D ad cz bd dz (fun q : Nat => s.heap.size ≤ q) s.heap σ τ H locs) (kk : ∀ (σ τ : fl_St) (H : Heap) (locs : List Loc), ag σ τ → gL D ad cz bd dz (fun q : Nat => s.heap.size ≤ q) s.heap σ τ H locs → W p l e room_1 s m #[Value.ref b] below meth c H locs 29 614 (lw_Z below #[Value.ref b] s) (F0 m 407 ls [])) : W p l e room_1 s m #[Value.ref b] below meth c H locs 29 614 (lw_Z below #[Value.ref b] s) (F0 m 229 ls []) := by
  obtain ⟨hx, hb, hr, hml, hown, hts0, hX, hbl, hlocks, hgv⟩ := C0
  have hts : ∀ w ∈ wsL_law, w.before #[Value.ref b] s = true := fun w h => hts0 w (wsL_law_in w h)
  have hA : ∀ q : Nat, s.heap.size ≤ q → (fun q : Nat => s.heap.size ≤ q) q := fun _ h => h
  have hbA : ¬ (fun q : Nat => s.heap.size ≤ q) b := Nat.not_le.mpr hbl
  obtain ⟨σ', τ', e1, e2, hag⟩ := ag_clear σ τ
  refine lv_aload_n hx hb dL_law_229 rfl (lv_at hl 1 rfl) ?_
  refine h_cv (As := []) (rest := []) ⟨hx, hb, hml, hown, hts⟩ (c_X2_clear l D ad cz σ e1) (cwV 0 hts gL_law_X2_clear rfl rfl rfl (by decide +kernel) ⟨Nat.le_of_ble_eq_true rfl, Nat.le_of_ble_eq_true rfl⟩) hK.1 hA hg rfl hl.1 rfl (Nat.le_of_ble_eq_true rfl) dL_law_230 ⟨Nat.le_of_ble_eq_true rfl, Nat.le_of_ble_eq_true rfl⟩ (fun H locs hg => ?_)
  refine lv_aload_n hx hb dL_law_233 rfl (lv_at hl 2 rfl) ?_
  refine h_mv (As := []) (rest := []) ⟨hx, hb, hml, hown, hts⟩ (c_X3_clear l D bd dz τ e2) (cwV 0 hts gL_law_X3_clear rfl rfl rfl (by decide +kernel) ⟨Nat.le_of_ble_eq_true rfl, Nat.le_of_ble_eq_true rfl⟩) hK.2 hA hg rfl hl.1 rfl (Nat.le_of_ble_eq_true rfl) dL_law_234 ⟨Nat.le_of_ble_eq_true rfl, Nat.le_of_ble_eq_true rfl⟩ (fun H locs hg => ?_)
  refine lv_goto (tgt := 407) hx hb dL_law_237 (by decide) ?_
  exact kk _ _ _ _ hag hg
set_option maxHeartbeats 4000000 in
set_option maxRecDepth 100000 in
theorem lw_op4 (C0 : lw_At p s m meth c b L xs) (hK : lw_K D cz dz s) (hv : ∀ v : Int32, v = 1 ∨ v = 2 ∨ v = 3 ∨ v = 4 → vp_in (x3 + v) L) (hl : lv_has ls 4 (lw_L ad bd b x3)) (hag : ag σ τ) (hg : gL D ad cz bd dz (fun q : Nat => s.heap.size ≤ q) s.heap σ τ H locs) (kk : ∀ (σ τ : fl_St) (H : Heap) (locs : List Loc), ag σ τ → gL D ad cz bd dz (fun q : Nat => s.heap.size ≤ q) s.heap σ τ H locs → W p l e room_1 s m #[Value.ref b] below meth c H locs 29 614 (lw_Z below #[Value.ref b] s) (F0 m 407 ls [])) : W p l e room_1 s m #[Value.ref b] below meth c H locs 29 614 (lw_Z below #[Value.ref b] s) (F0 m 240 ls []) := by
  obtain ⟨hx, hb, hr, hml, hown, hts0, hX, hbl, hlocks, hgv⟩ := C0
  have hts : ∀ w ∈ wsL_law, w.before #[Value.ref b] s = true := fun w h => hts0 w (wsL_law_in w h)
  have hA : ∀ q : Nat, s.heap.size ≤ q → (fun q : Nat => s.heap.size ≤ q) q := fun _ h => h
  have hbA : ¬ (fun q : Nat => s.heap.size ≤ q) b := Nat.not_le.mpr hbl
  obtain ⟨r, e1, e2⟩ := ag_arcs hag
  refine lv_aload_n hx hb dL_law_240 rfl (lv_at hl 1 rfl) ?_
  refine h_ci (As := []) (rest := []) ⟨hx, hb, hml, hown, hts⟩ (c_X2_arcs l D ad cz σ e1) (cwV 0 hts gL_law_X2_arcs rfl rfl rfl (by decide +kernel) ⟨Nat.le_of_ble_eq_true rfl, Nat.le_of_ble_eq_true rfl⟩) hK.1 hA hg rfl hl.1 rfl (Nat.le_of_ble_eq_true rfl) dL_law_241 ⟨Nat.le_of_ble_eq_true rfl, Nat.le_of_ble_eq_true rfl⟩ (fun H locs hg => ?_)
  refine lv_aload_n hx hb dL_law_244 rfl (lv_at hl 2 rfl) ?_
  refine h_mi (As := []) (rest := [.int r]) ⟨hx, hb, hml, hown, hts⟩ (c_X3_arcs l D bd dz τ e2) (cwV 0 hts gL_law_X3_arcs rfl rfl rfl (by decide +kernel) ⟨Nat.le_of_ble_eq_true rfl, Nat.le_of_ble_eq_true rfl⟩) hK.2 hA hg rfl hl.1 rfl (Nat.le_of_ble_eq_true rfl) dL_law_245 ⟨Nat.le_of_ble_eq_true rfl, Nat.le_of_ble_eq_true rfl⟩ (fun H locs hg => ?_)
  refine lv_icmp_eq (tgt := 407) hx hb dL_law_248 (by decide) (fun _ => ?_) (fun c1 => absurd rfl c1)
  exact kk _ _ _ _ hag hg
set_option maxHeartbeats 4000000 in
set_option maxRecDepth 100000 in
theorem lw_op5 (C0 : lw_At p s m meth c b L xs) (hK : lw_K D cz dz s) (hv : ∀ v : Int32, v = 1 ∨ v = 2 ∨ v = 3 ∨ v = 4 → vp_in (x3 + v) L) (hl : lv_has ls 4 (lw_L ad bd b x3)) (hag : ag σ τ) (hg : gL D ad cz bd dz (fun q : Nat => s.heap.size ≤ q) s.heap σ τ H locs) (kk : ∀ (σ τ : fl_St) (H : Heap) (locs : List Loc), ag σ τ → gL D ad cz bd dz (fun q : Nat => s.heap.size ≤ q) s.heap σ τ H locs → W p l e room_1 s m #[Value.ref b] below meth c H locs 29 614 (lw_Z below #[Value.ref b] s) (F0 m 407 ls [])) : W p l e room_1 s m #[Value.ref b] below meth c H locs 29 614 (lw_Z below #[Value.ref b] s) (F0 m 253 ls []) := by
  obtain ⟨hx, hb, hr, hml, hown, hts0, hX, hbl, hlocks, hgv⟩ := C0
  have hts : ∀ w ∈ wsL_law, w.before #[Value.ref b] s = true := fun w h => hts0 w (wsL_law_in w h)
  have hA : ∀ q : Nat, s.heap.size ≤ q → (fun q : Nat => s.heap.size ≤ q) q := fun _ h => h
  have hbA : ¬ (fun q : Nat => s.heap.size ≤ q) b := Nat.not_le.mpr hbl
  obtain ⟨r, σ', τ', e1, e2, hag⟩ := ag_state hag
  refine lv_aload_n hx hb dL_law_253 rfl (lv_at hl 1 rfl) ?_
  refine h_ci (As := []) (rest := []) ⟨hx, hb, hml, hown, hts⟩ (c_X2_state l D ad cz σ e1) (cwV 0 hts gL_law_X2_state rfl rfl rfl (by decide +kernel) ⟨Nat.le_of_ble_eq_true rfl, Nat.le_of_ble_eq_true rfl⟩) hK.1 hA hg rfl hl.1 rfl (Nat.le_of_ble_eq_true rfl) dL_law_254 ⟨Nat.le_of_ble_eq_true rfl, Nat.le_of_ble_eq_true rfl⟩ (fun H locs hg => ?_)
  refine lv_aload_n hx hb dL_law_257 rfl (lv_at hl 2 rfl) ?_
  refine h_mi (As := []) (rest := [.int r]) ⟨hx, hb, hml, hown, hts⟩ (c_X3_state l D bd dz τ e2) (cwV 0 hts gL_law_X3_state rfl rfl rfl (by decide +kernel) ⟨Nat.le_of_ble_eq_true rfl, Nat.le_of_ble_eq_true rfl⟩) hK.2 hA hg rfl hl.1 rfl (Nat.le_of_ble_eq_true rfl) dL_law_258 ⟨Nat.le_of_ble_eq_true rfl, Nat.le_of_ble_eq_true rfl⟩ (fun H locs hg => ?_)
  refine lv_icmp_eq (tgt := 407) hx hb dL_law_261 (by decide) (fun _ => ?_) (fun c1 => absurd rfl c1)
  exact kk _ _ _ _ hag hg
set_option maxHeartbeats 4000000 in
set_option maxRecDepth 100000 in
theorem lw_op6 (C0 : lw_At p s m meth c b L xs) (hK : lw_K D cz dz s) (hv : ∀ v : Int32, v = 1 ∨ v = 2 ∨ v = 3 ∨ v = 4 → vp_in (x3 + v) L) (hl : lv_has ls 4 (lw_L ad bd b x3)) (hag : ag σ τ) (hg : gL D ad cz bd dz (fun q : Nat => s.heap.size ≤ q) s.heap σ τ H locs) (kk : ∀ (σ τ : fl_St) (H : Heap) (locs : List Loc), ag σ τ → gL D ad cz bd dz (fun q : Nat => s.heap.size ≤ q) s.heap σ τ H locs → W p l e room_1 s m #[Value.ref b] below meth c H locs 29 614 (lw_Z below #[Value.ref b] s) (F0 m 407 ls [])) : W p l e room_1 s m #[Value.ref b] below meth c H locs 29 614 (lw_Z below #[Value.ref b] s) (F0 m 266 ls []) := by
  obtain ⟨hx, hb, hr, hml, hown, hts0, hX, hbl, hlocks, hgv⟩ := C0
  have hts : ∀ w ∈ wsL_law, w.before #[Value.ref b] s = true := fun w h => hts0 w (wsL_law_in w h)
  have hA : ∀ q : Nat, s.heap.size ≤ q → (fun q : Nat => s.heap.size ≤ q) q := fun _ h => h
  have hbA : ¬ (fun q : Nat => s.heap.size ≤ q) b := Nat.not_le.mpr hbl
  obtain ⟨r, σ', τ', e1, e2, hag⟩ := ag_cost hag
  refine lv_aload_n hx hb dL_law_266 rfl (lv_at hl 1 rfl) ?_
  refine h_ci (As := []) (rest := []) ⟨hx, hb, hml, hown, hts⟩ (c_X2_cost l D ad cz σ e1) (cwV 0 hts gL_law_X2_cost rfl rfl rfl (by decide +kernel) ⟨Nat.le_of_ble_eq_true rfl, Nat.le_of_ble_eq_true rfl⟩) hK.1 hA hg rfl hl.1 rfl (Nat.le_of_ble_eq_true rfl) dL_law_267 ⟨Nat.le_of_ble_eq_true rfl, Nat.le_of_ble_eq_true rfl⟩ (fun H locs hg => ?_)
  refine lv_aload_n hx hb dL_law_270 rfl (lv_at hl 2 rfl) ?_
  refine h_mi (As := []) (rest := [.int r]) ⟨hx, hb, hml, hown, hts⟩ (c_X3_cost l D bd dz τ e2) (cwV 0 hts gL_law_X3_cost rfl rfl rfl (by decide +kernel) ⟨Nat.le_of_ble_eq_true rfl, Nat.le_of_ble_eq_true rfl⟩) hK.2 hA hg rfl hl.1 rfl (Nat.le_of_ble_eq_true rfl) dL_law_271 ⟨Nat.le_of_ble_eq_true rfl, Nat.le_of_ble_eq_true rfl⟩ (fun H locs hg => ?_)
  refine lv_icmp_eq (tgt := 407) hx hb dL_law_274 (by decide) (fun _ => ?_) (fun c1 => absurd rfl c1)
  exact kk _ _ _ _ hag hg
set_option maxHeartbeats 4000000 in
set_option maxRecDepth 100000 in
theorem lw_op7 (C0 : lw_At p s m meth c b L xs) (hK : lw_K D cz dz s) (hv : ∀ v : Int32, v = 1 ∨ v = 2 ∨ v = 3 ∨ v = 4 → vp_in (x3 + v) L) (hl : lv_has ls 4 (lw_L ad bd b x3)) (hag : ag σ τ) (hg : gL D ad cz bd dz (fun q : Nat => s.heap.size ≤ q) s.heap σ τ H locs) (kk : ∀ (σ τ : fl_St) (H : Heap) (locs : List Loc), ag σ τ → gL D ad cz bd dz (fun q : Nat => s.heap.size ≤ q) s.heap σ τ H locs → W p l e room_1 s m #[Value.ref b] below meth c H locs 29 614 (lw_Z below #[Value.ref b] s) (F0 m 407 ls [])) : W p l e room_1 s m #[Value.ref b] below meth c H locs 29 614 (lw_Z below #[Value.ref b] s) (F0 m 279 ls []) := by
  obtain ⟨hx, hb, hr, hml, hown, hts0, hX, hbl, hlocks, hgv⟩ := C0
  have hts : ∀ w ∈ wsL_law, w.before #[Value.ref b] s = true := fun w h => hts0 w (wsL_law_in w h)
  have hA : ∀ q : Nat, s.heap.size ≤ q → (fun q : Nat => s.heap.size ≤ q) q := fun _ h => h
  have hbA : ¬ (fun q : Nat => s.heap.size ≤ q) b := Nat.not_le.mpr hbl
  obtain ⟨r, σ', τ', e1, e2, hag⟩ := ag_amount hag
  refine lv_aload_n hx hb dL_law_279 rfl (lv_at hl 1 rfl) ?_
  refine h_ci (As := []) (rest := []) ⟨hx, hb, hml, hown, hts⟩ (c_X2_amount l D ad cz σ e1) (cwV 0 hts gL_law_X2_amount rfl rfl rfl (by decide +kernel) ⟨Nat.le_of_ble_eq_true rfl, Nat.le_of_ble_eq_true rfl⟩) hK.1 hA hg rfl hl.1 rfl (Nat.le_of_ble_eq_true rfl) dL_law_280 ⟨Nat.le_of_ble_eq_true rfl, Nat.le_of_ble_eq_true rfl⟩ (fun H locs hg => ?_)
  refine lv_aload_n hx hb dL_law_283 rfl (lv_at hl 2 rfl) ?_
  refine h_mi (As := []) (rest := [.int r]) ⟨hx, hb, hml, hown, hts⟩ (c_X3_amount l D bd dz τ e2) (cwV 0 hts gL_law_X3_amount rfl rfl rfl (by decide +kernel) ⟨Nat.le_of_ble_eq_true rfl, Nat.le_of_ble_eq_true rfl⟩) hK.2 hA hg rfl hl.1 rfl (Nat.le_of_ble_eq_true rfl) dL_law_284 ⟨Nat.le_of_ble_eq_true rfl, Nat.le_of_ble_eq_true rfl⟩ (fun H locs hg => ?_)
  refine lv_icmp_eq (tgt := 407) hx hb dL_law_287 (by decide) (fun _ => ?_) (fun c1 => absurd rfl c1)
  exact kk _ _ _ _ hag hg
set_option maxHeartbeats 4000000 in
set_option maxRecDepth 100000 in
theorem lw_op8 (C0 : lw_At p s m meth c b L xs) (hK : lw_K D cz dz s) (hv : ∀ v : Int32, v = 1 ∨ v = 2 ∨ v = 3 ∨ v = 4 → vp_in (x3 + v) L) (hl : lv_has ls 4 (lw_L ad bd b x3)) (hag : ag σ τ) (hg : gL D ad cz bd dz (fun q : Nat => s.heap.size ≤ q) s.heap σ τ H locs) (kk : ∀ (σ τ : fl_St) (H : Heap) (locs : List Loc), ag σ τ → gL D ad cz bd dz (fun q : Nat => s.heap.size ≤ q) s.heap σ τ H locs → W p l e room_1 s m #[Value.ref b] below meth c H locs 29 614 (lw_Z below #[Value.ref b] s) (F0 m 407 ls [])) : W p l e room_1 s m #[Value.ref b] below meth c H locs 29 614 (lw_Z below #[Value.ref b] s) (F0 m 292 ls []) := by
  obtain ⟨hx, hb, hr, hml, hown, hts0, hX, hbl, hlocks, hgv⟩ := C0
  have hts : ∀ w ∈ wsL_law, w.before #[Value.ref b] s = true := fun w h => hts0 w (wsL_law_in w h)
  have hA : ∀ q : Nat, s.heap.size ≤ q → (fun q : Nat => s.heap.size ≤ q) q := fun _ h => h
  have hbA : ¬ (fun q : Nat => s.heap.size ≤ q) b := Nat.not_le.mpr hbl
  obtain ⟨r, σ', e1, e2, hag⟩ := ag_bottleneck hag
  refine lv_aload_n hx hb dL_law_292 rfl (lv_at hl 1 rfl) ?_
  refine h_ci (As := []) (rest := []) ⟨hx, hb, hml, hown, hts⟩ (c_X2_bottleneck l D ad cz σ e1) (cwV 0 hts gL_law_X2_bottleneck rfl rfl rfl (by decide +kernel) ⟨Nat.le_of_ble_eq_true rfl, Nat.le_of_ble_eq_true rfl⟩) hK.1 hA hg rfl hl.1 rfl (Nat.le_of_ble_eq_true rfl) dL_law_293 ⟨Nat.le_of_ble_eq_true rfl, Nat.le_of_ble_eq_true rfl⟩ (fun H locs hg => ?_)
  refine lv_aload_n hx hb dL_law_296 rfl (lv_at hl 2 rfl) ?_
  refine h_mi (As := []) (rest := [.int r]) ⟨hx, hb, hml, hown, hts⟩ (c_X3_bottleneck l D bd dz τ e2) (cwV 0 hts gL_law_X3_bottleneck rfl rfl rfl (by decide +kernel) ⟨Nat.le_of_ble_eq_true rfl, Nat.le_of_ble_eq_true rfl⟩) hK.2 hA hg rfl hl.1 rfl (Nat.le_of_ble_eq_true rfl) dL_law_297 ⟨Nat.le_of_ble_eq_true rfl, Nat.le_of_ble_eq_true rfl⟩ (fun H locs hg => ?_)
  refine lv_icmp_eq (tgt := 407) hx hb dL_law_300 (by decide) (fun _ => ?_) (fun c1 => absurd rfl c1)
  exact kk _ _ _ _ hag hg
set_option maxHeartbeats 4000000 in
set_option maxRecDepth 100000 in
theorem lw_op9 (C0 : lw_At p s m meth c b L xs) (hK : lw_K D cz dz s) (hv : ∀ v : Int32, v = 1 ∨ v = 2 ∨ v = 3 ∨ v = 4 → vp_in (x3 + v) L) (hl : lv_has ls 4 (lw_L ad bd b x3)) (hag : ag σ τ) (hg : gL D ad cz bd dz (fun q : Nat => s.heap.size ≤ q) s.heap σ τ H locs) (kk : ∀ (σ τ : fl_St) (H : Heap) (locs : List Loc), ag σ τ → gL D ad cz bd dz (fun q : Nat => s.heap.size ≤ q) s.heap σ τ H locs → W p l e room_1 s m #[Value.ref b] below meth c H locs 29 614 (lw_Z below #[Value.ref b] s) (F0 m 407 ls [])) : W p l e room_1 s m #[Value.ref b] below meth c H locs 29 614 (lw_Z below #[Value.ref b] s) (F0 m 305 ls []) := by
  obtain ⟨hx, hb, hr, hml, hown, hts0, hX, hbl, hlocks, hgv⟩ := C0
  have hts : ∀ w ∈ wsL_law, w.before #[Value.ref b] s = true := fun w h => hts0 w (wsL_law_in w h)
  have hA : ∀ q : Nat, s.heap.size ≤ q → (fun q : Nat => s.heap.size ≤ q) q := fun _ h => h
  have hbA : ¬ (fun q : Nat => s.heap.size ≤ q) b := Nat.not_le.mpr hbl
  obtain ⟨r, σ', τ', e1, e2, hag⟩ := ag_marginal (xs (x3 + 1).toNatClampNeg) (xs (x3 + 2).toNatClampNeg) hag
  refine lv_aload_n hx hb dL_law_305 rfl (lv_at hl 1 rfl) ?_
  refine h_arg (k := 1) (v := 1) (j0 := 0) (j3 := 3) hx hb hX hbl hbA hg.2.2 hl rfl rfl (by decide) (hv 1 (by decide)) dL_law_306 dL_law_307 dL_law_308 dL_law_309 dL_law_310 ?_
  refine h_arg (k := 2) (v := 2) (j0 := 0) (j3 := 3) hx hb hX hbl hbA hg.2.2 hl rfl rfl (by decide) (hv 2 (by decide)) dL_law_311 dL_law_312 dL_law_313 dL_law_314 dL_law_315 ?_
  refine h_ci (As := [.int (xs (x3 + 1).toNatClampNeg), .int (xs (x3 + 2).toNatClampNeg)]) (rest := []) ⟨hx, hb, hml, hown, hts⟩ (c_X2_marginal l D ad cz (xs (x3 + 1).toNatClampNeg) (xs (x3 + 2).toNatClampNeg) σ e1) (cwV 2 hts gL_law_X2_marginal rfl rfl rfl (by decide +kernel) ⟨Nat.le_of_ble_eq_true rfl, Nat.le_of_ble_eq_true rfl⟩) hK.1 hA hg rfl hl.1 rfl (Nat.le_of_ble_eq_true rfl) dL_law_316 ⟨Nat.le_of_ble_eq_true rfl, Nat.le_of_ble_eq_true rfl⟩ (fun H locs hg => ?_)
  refine lv_aload_n hx hb dL_law_319 rfl (lv_at hl 2 rfl) ?_
  refine h_arg (k := 1) (v := 1) (j0 := 0) (j3 := 3) hx hb hX hbl hbA hg.2.2 hl rfl rfl (by decide) (hv 1 (by decide)) dL_law_320 dL_law_321 dL_law_322 dL_law_323 dL_law_324 ?_
  refine h_arg (k := 2) (v := 2) (j0 := 0) (j3 := 3) hx hb hX hbl hbA hg.2.2 hl rfl rfl (by decide) (hv 2 (by decide)) dL_law_325 dL_law_326 dL_law_327 dL_law_328 dL_law_329 ?_
  refine h_mi (As := [.int (xs (x3 + 1).toNatClampNeg), .int (xs (x3 + 2).toNatClampNeg)]) (rest := [.int r]) ⟨hx, hb, hml, hown, hts⟩ (c_X3_marginal l D bd dz (xs (x3 + 1).toNatClampNeg) (xs (x3 + 2).toNatClampNeg) τ e2) (cwV 2 hts gL_law_X3_marginal rfl rfl rfl (by decide +kernel) ⟨Nat.le_of_ble_eq_true rfl, Nat.le_of_ble_eq_true rfl⟩) hK.2 hA hg rfl hl.1 rfl (Nat.le_of_ble_eq_true rfl) dL_law_330 ⟨Nat.le_of_ble_eq_true rfl, Nat.le_of_ble_eq_true rfl⟩ (fun H locs hg => ?_)
  refine lv_icmp_eq (tgt := 407) hx hb dL_law_333 (by decide) (fun _ => ?_) (fun c1 => absurd rfl c1)
  exact kk _ _ _ _ hag hg
set_option maxHeartbeats 4000000 in
set_option maxRecDepth 100000 in
theorem lw_op10 (C0 : lw_At p s m meth c b L xs) (hK : lw_K D cz dz s) (hv : ∀ v : Int32, v = 1 ∨ v = 2 ∨ v = 3 ∨ v = 4 → vp_in (x3 + v) L) (hl : lv_has ls 4 (lw_L ad bd b x3)) (hag : ag σ τ) (hg : gL D ad cz bd dz (fun q : Nat => s.heap.size ≤ q) s.heap σ τ H locs) (kk : ∀ (σ τ : fl_St) (H : Heap) (locs : List Loc), ag σ τ → gL D ad cz bd dz (fun q : Nat => s.heap.size ≤ q) s.heap σ τ H locs → W p l e room_1 s m #[Value.ref b] below meth c H locs 29 614 (lw_Z below #[Value.ref b] s) (F0 m 407 ls [])) : W p l e room_1 s m #[Value.ref b] below meth c H locs 29 614 (lw_Z below #[Value.ref b] s) (F0 m 338 ls []) := by
  obtain ⟨hx, hb, hr, hml, hown, hts0, hX, hbl, hlocks, hgv⟩ := C0
  have hts : ∀ w ∈ wsL_law, w.before #[Value.ref b] s = true := fun w h => hts0 w (wsL_law_in w h)
  have hA : ∀ q : Nat, s.heap.size ≤ q → (fun q : Nat => s.heap.size ≤ q) q := fun _ h => h
  have hbA : ¬ (fun q : Nat => s.heap.size ≤ q) b := Nat.not_le.mpr hbl
  obtain ⟨r, σ', τ', e1, e2, hag⟩ := ag_least (xs (x3 + 1).toNatClampNeg) hag
  refine lv_aload_n hx hb dL_law_338 rfl (lv_at hl 1 rfl) ?_
  refine h_arg (k := 1) (v := 1) (j0 := 0) (j3 := 3) hx hb hX hbl hbA hg.2.2 hl rfl rfl (by decide) (hv 1 (by decide)) dL_law_339 dL_law_340 dL_law_341 dL_law_342 dL_law_343 ?_
  refine h_ci (As := [.int (xs (x3 + 1).toNatClampNeg)]) (rest := []) ⟨hx, hb, hml, hown, hts⟩ (c_X2_least l D ad cz (xs (x3 + 1).toNatClampNeg) σ e1) (cwV 1 hts gL_law_X2_least rfl rfl rfl (by decide +kernel) ⟨Nat.le_of_ble_eq_true rfl, Nat.le_of_ble_eq_true rfl⟩) hK.1 hA hg rfl hl.1 rfl (Nat.le_of_ble_eq_true rfl) dL_law_344 ⟨Nat.le_of_ble_eq_true rfl, Nat.le_of_ble_eq_true rfl⟩ (fun H locs hg => ?_)
  refine lv_aload_n hx hb dL_law_347 rfl (lv_at hl 2 rfl) ?_
  refine h_arg (k := 1) (v := 1) (j0 := 0) (j3 := 3) hx hb hX hbl hbA hg.2.2 hl rfl rfl (by decide) (hv 1 (by decide)) dL_law_348 dL_law_349 dL_law_350 dL_law_351 dL_law_352 ?_
  refine h_mi (As := [.int (xs (x3 + 1).toNatClampNeg)]) (rest := [.int r]) ⟨hx, hb, hml, hown, hts⟩ (c_X3_least l D bd dz (xs (x3 + 1).toNatClampNeg) τ e2) (cwV 1 hts gL_law_X3_least rfl rfl rfl (by decide +kernel) ⟨Nat.le_of_ble_eq_true rfl, Nat.le_of_ble_eq_true rfl⟩) hK.2 hA hg rfl hl.1 rfl (Nat.le_of_ble_eq_true rfl) dL_law_353 ⟨Nat.le_of_ble_eq_true rfl, Nat.le_of_ble_eq_true rfl⟩ (fun H locs hg => ?_)
  refine lv_icmp_eq (tgt := 407) hx hb dL_law_356 (by decide) (fun _ => ?_) (fun c1 => absurd rfl c1)
  exact kk _ _ _ _ hag hg
set_option maxHeartbeats 4000000 in
set_option maxRecDepth 100000 in
theorem lw_op11 (C0 : lw_At p s m meth c b L xs) (hK : lw_K D cz dz s) (hv : ∀ v : Int32, v = 1 ∨ v = 2 ∨ v = 3 ∨ v = 4 → vp_in (x3 + v) L) (hl : lv_has ls 4 (lw_L ad bd b x3)) (hag : ag σ τ) (hg : gL D ad cz bd dz (fun q : Nat => s.heap.size ≤ q) s.heap σ τ H locs) (kk : ∀ (σ τ : fl_St) (H : Heap) (locs : List Loc), ag σ τ → gL D ad cz bd dz (fun q : Nat => s.heap.size ≤ q) s.heap σ τ H locs → W p l e room_1 s m #[Value.ref b] below meth c H locs 29 614 (lw_Z below #[Value.ref b] s) (F0 m 407 ls [])) : W p l e room_1 s m #[Value.ref b] below meth c H locs 29 614 (lw_Z below #[Value.ref b] s) (F0 m 361 ls []) := by
  obtain ⟨hx, hb, hr, hml, hown, hts0, hX, hbl, hlocks, hgv⟩ := C0
  have hts : ∀ w ∈ wsL_law, w.before #[Value.ref b] s = true := fun w h => hts0 w (wsL_law_in w h)
  have hA : ∀ q : Nat, s.heap.size ≤ q → (fun q : Nat => s.heap.size ≤ q) q := fun _ h => h
  have hbA : ¬ (fun q : Nat => s.heap.size ≤ q) b := Nat.not_le.mpr hbl
  obtain ⟨r, σ', τ', e1, e2, hag⟩ := ag_most (xs (x3 + 1).toNatClampNeg) hag
  refine lv_aload_n hx hb dL_law_361 rfl (lv_at hl 1 rfl) ?_
  refine h_arg (k := 1) (v := 1) (j0 := 0) (j3 := 3) hx hb hX hbl hbA hg.2.2 hl rfl rfl (by decide) (hv 1 (by decide)) dL_law_362 dL_law_363 dL_law_364 dL_law_365 dL_law_366 ?_
  refine h_ci (As := [.int (xs (x3 + 1).toNatClampNeg)]) (rest := []) ⟨hx, hb, hml, hown, hts⟩ (c_X2_most l D ad cz (xs (x3 + 1).toNatClampNeg) σ e1) (cwV 1 hts gL_law_X2_most rfl rfl rfl (by decide +kernel) ⟨Nat.le_of_ble_eq_true rfl, Nat.le_of_ble_eq_true rfl⟩) hK.1 hA hg rfl hl.1 rfl (Nat.le_of_ble_eq_true rfl) dL_law_367 ⟨Nat.le_of_ble_eq_true rfl, Nat.le_of_ble_eq_true rfl⟩ (fun H locs hg => ?_)
  refine lv_aload_n hx hb dL_law_370 rfl (lv_at hl 2 rfl) ?_
  refine h_arg (k := 1) (v := 1) (j0 := 0) (j3 := 3) hx hb hX hbl hbA hg.2.2 hl rfl rfl (by decide) (hv 1 (by decide)) dL_law_371 dL_law_372 dL_law_373 dL_law_374 dL_law_375 ?_
  refine h_mi (As := [.int (xs (x3 + 1).toNatClampNeg)]) (rest := [.int r]) ⟨hx, hb, hml, hown, hts⟩ (c_X3_most l D bd dz (xs (x3 + 1).toNatClampNeg) τ e2) (cwV 1 hts gL_law_X3_most rfl rfl rfl (by decide +kernel) ⟨Nat.le_of_ble_eq_true rfl, Nat.le_of_ble_eq_true rfl⟩) hK.2 hA hg rfl hl.1 rfl (Nat.le_of_ble_eq_true rfl) dL_law_376 ⟨Nat.le_of_ble_eq_true rfl, Nat.le_of_ble_eq_true rfl⟩ (fun H locs hg => ?_)
  refine lv_icmp_eq (tgt := 407) hx hb dL_law_379 (by decide) (fun _ => ?_) (fun c1 => absurd rfl c1)
  exact kk _ _ _ _ hag hg
set_option maxHeartbeats 4000000 in
set_option maxRecDepth 100000 in
theorem lw_op12 (C0 : lw_At p s m meth c b L xs) (hK : lw_K D cz dz s) (hv : ∀ v : Int32, v = 1 ∨ v = 2 ∨ v = 3 ∨ v = 4 → vp_in (x3 + v) L) (hl : lv_has ls 4 (lw_L ad bd b x3)) (hag : ag σ τ) (hg : gL D ad cz bd dz (fun q : Nat => s.heap.size ≤ q) s.heap σ τ H locs) (kk : ∀ (σ τ : fl_St) (H : Heap) (locs : List Loc), ag σ τ → gL D ad cz bd dz (fun q : Nat => s.heap.size ≤ q) s.heap σ τ H locs → W p l e room_1 s m #[Value.ref b] below meth c H locs 29 614 (lw_Z below #[Value.ref b] s) (F0 m 407 ls [])) : W p l e room_1 s m #[Value.ref b] below meth c H locs 29 614 (lw_Z below #[Value.ref b] s) (F0 m 384 ls []) := by
  obtain ⟨hx, hb, hr, hml, hown, hts0, hX, hbl, hlocks, hgv⟩ := C0
  have hts : ∀ w ∈ wsL_law, w.before #[Value.ref b] s = true := fun w h => hts0 w (wsL_law_in w h)
  have hA : ∀ q : Nat, s.heap.size ≤ q → (fun q : Nat => s.heap.size ≤ q) q := fun _ h => h
  have hbA : ¬ (fun q : Nat => s.heap.size ≤ q) b := Nat.not_le.mpr hbl
  obtain ⟨r, σ', τ', e1, e2, hag⟩ := ag_slack (xs (x3 + 1).toNatClampNeg) hag
  refine lv_aload_n hx hb dL_law_384 rfl (lv_at hl 1 rfl) ?_
  refine h_arg (k := 1) (v := 1) (j0 := 0) (j3 := 3) hx hb hX hbl hbA hg.2.2 hl rfl rfl (by decide) (hv 1 (by decide)) dL_law_385 dL_law_386 dL_law_387 dL_law_388 dL_law_389 ?_
  refine h_ci (As := [.int (xs (x3 + 1).toNatClampNeg)]) (rest := []) ⟨hx, hb, hml, hown, hts⟩ (c_X2_slack l D ad cz (xs (x3 + 1).toNatClampNeg) σ e1) (cwV 1 hts gL_law_X2_slack rfl rfl rfl (by decide +kernel) ⟨Nat.le_of_ble_eq_true rfl, Nat.le_of_ble_eq_true rfl⟩) hK.1 hA hg rfl hl.1 rfl (Nat.le_of_ble_eq_true rfl) dL_law_390 ⟨Nat.le_of_ble_eq_true rfl, Nat.le_of_ble_eq_true rfl⟩ (fun H locs hg => ?_)
  refine lv_aload_n hx hb dL_law_393 rfl (lv_at hl 2 rfl) ?_
  refine h_arg (k := 1) (v := 1) (j0 := 0) (j3 := 3) hx hb hX hbl hbA hg.2.2 hl rfl rfl (by decide) (hv 1 (by decide)) dL_law_394 dL_law_395 dL_law_396 dL_law_397 dL_law_398 ?_
  refine h_mi (As := [.int (xs (x3 + 1).toNatClampNeg)]) (rest := [.int r]) ⟨hx, hb, hml, hown, hts⟩ (c_X3_slack l D bd dz (xs (x3 + 1).toNatClampNeg) τ e2) (cwV 1 hts gL_law_X3_slack rfl rfl rfl (by decide +kernel) ⟨Nat.le_of_ble_eq_true rfl, Nat.le_of_ble_eq_true rfl⟩) hK.2 hA hg rfl hl.1 rfl (Nat.le_of_ble_eq_true rfl) dL_law_399 ⟨Nat.le_of_ble_eq_true rfl, Nat.le_of_ble_eq_true rfl⟩ (fun H locs hg => ?_)
  refine lv_icmp_eq (tgt := 407) hx hb dL_law_402 (by decide) (fun _ => ?_) (fun c1 => absurd rfl c1)
  exact kk _ _ _ _ hag hg
end LO
