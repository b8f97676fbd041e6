/-! the law: its loop -/
section LL
variable {p : Program} {l : Launch} {e : Env} {s : State} {m : MethodId} {below : List Frame} {meth : Method} {c : Code} {D : va_G} {ad bd : Nat → Nat} {cz dz : Nat → ClassId} {b L : Nat} {xs : Nat → Int32}
theorem nI_5 {i : Nat} (h : i < 100000) : nI i + Int32.ofInt 5 = nI (i + 5) := by
  have z : (Int32.ofInt 5).toInt = 5 := by decide
  rw [i_eq, i_add (by rw [nI_t (by omega), z]; omega) (by rw [nI_t (by omega), z]; omega), nI_t (by omega), nI_t (by omega), z]
  omega
theorem nI_k {i k : Nat} {v : Int32} (h : i < 100000) (hk : k < 10) (hv : v.toInt = (k : Int)) : nI i + v = nI (i + k) := by
  rw [i_eq, i_add (by rw [nI_t (by omega), hv]; omega) (by rw [nI_t (by omega), hv]; omega), nI_t (by omega), nI_t (by omega), hv]
  omega
theorem lw_in {i : Nat} (hi : i + 5 ≤ L) (hL : L ≤ 2560) (v : Int32) (hv : v = 1 ∨ v = 2 ∨ v = 3 ∨ v = 4) : vp_in (nI i + v) L := by
  rcases hv with rfl | rfl | rfl | rfl
  · rw [nI_k (k := 1) (by omega) (by omega) (by decide)]; exact vp_in_nI (by omega) (by omega)
  · rw [nI_k (k := 2) (by omega) (by omega) (by decide)]; exact vp_in_nI (by omega) (by omega)
  · rw [nI_k (k := 3) (by omega) (by omega) (by decide)]; exact vp_in_nI (by omega) (by omega)
  · rw [nI_k (k := 4) (by omega) (by omega) (by decide)]; exact vp_in_nI (by omega) (by omega)
set_option maxHeartbeats 4000000 in
set_option maxRecDepth 100000 in
theorem law_loop (hL : L ≤ 2560) (C0 : lw_At p s m meth c b L xs) (hK : lw_K D cz dz s) : ∀ (n i : Nat) (σ τ : fl_St) (H : Heap) (locs : List Loc) (ls : Array Slot), i ≤ L → L + 1 ≤ i + n → ag σ τ → gL D ad cz bd dz (fun q : Nat => s.heap.size ≤ q) s.heap σ τ H locs → lv_has ls 4 (lw_L ad bd b (nI i)) → W p l e room_1 s m #[Value.ref b] below meth c H locs 29 614 (lw_Z below #[Value.ref b] s) (F0 m 18 ls []) := by
  obtain ⟨hx, hb, hr, hml, hown, hts, hX, hbl, hlocks, hgv⟩ := id C0
  have hbA : ¬ (fun q : Nat => s.heap.size ≤ q) b := Nat.not_le.mpr hbl
  intro n
  induction n with
  | zero => intro i σ τ H locs ls h1 h2; exact absurd h2 (by omega)
  | succ n ih =>
    intro i σ τ H locs ls hi hn hag hg hl
    refine lv_iload_n hx hb dL_law_18 rfl (lv_at hl 3 rfl) ?_
    refine lv_aload_n hx hb dL_law_19 rfl (lv_at hl 0 rfl) ?_
    refine va_slen hx hb hX hbl hbA hg.2.2 dL_law_20 ?_
    refine lv_iconst (v := 5) hx hb dL_law_21 (by decide) ?_
    refine lv_isub hx hb dL_law_22 ?_
    refine lv_icmp_gt (tgt := 413) hx hb dL_law_23 (by decide) (fun c1 => ?_) (fun c1 => ?_)
    · refine lv_iconst (v := 1) hx hb dL_law_413 (by decide) ?_
      refine va_forget (fun q hq => hg.2.2.2.2 q hq) ?_
      exact lw_ret hx hb hr hlocks dL_law_414
    · have hlt : i + 5 ≤ L := by
        have z : (5 : Int32).toInt = 5 := by decide
        have e1 : (nI L - 5).toInt = (L : Int) - 5 := by rw [i_sub (by rw [nI_t (by omega), z]; omega) (by rw [nI_t (by omega), z]; omega), nI_t (by omega), z]
        have c2 : ¬ nI L - 5 < nI i := c1
        rw [i_lt, e1, nI_t (by omega)] at c2
        omega
      refine lv_aload_n hx hb dL_law_26 rfl (lv_at hl 0 rfl) ?_
      refine lv_iload_n hx hb dL_law_27 rfl (lv_at hl 3 rfl) ?_
      refine va_sld hx hb hX hbl hbA hg.2.2 (vp_in_nI (by omega) (by omega)) dL_law_28 ?_
      refine lv_bipush (v := 15) hx hb dL_law_29 (by decide) ?_
      refine lv_iand hx hb dL_law_31 ?_
      refine lv_topi (fun x ex => ?_)
      have kk : ∀ (σ τ : fl_St) (H : Heap) (locs : List Loc), ag σ τ → gL D ad cz bd dz (fun q : Nat => s.heap.size ≤ q) s.heap σ τ H locs → W p l e room_1 s m #[Value.ref b] below meth c H locs 29 614 (lw_Z below #[Value.ref b] s) (F0 m 407 ls []) := by
        intro σ τ H locs hag hg
        refine lv_iinc (v := nI (i + 5)) (lv' := [(3, .int (nI (i + 5))), (0, .ref b), (1, .ref (ad 0)), (2, .ref (bd 0))]) hx hb dL_law_407 hl (k := 3) rfl (nI_5 (by omega)) (by decide) rfl (fun ls hl => ?_)
        refine lv_goto (tgt := 18) hx hb dL_law_410 (by decide) ?_
        exact ih (i + 5) σ τ H locs ls hlt (by omega) hag hg (lv_sub hl [1, 2, 3, 0] rfl)
      have hv := lw_in hlt hL
      by_cases q0 : x.toInt = 0
      · refine lv_tableIn (off := 68) (tgt := 100) hx hb dL_law_32 (by omega) (by omega) (by rw [q0]; rfl) (by decide) ?_
        exact lw_op0 C0 hK hv hl hag hg kk
      by_cases q1 : x.toInt = 1
      · refine lv_tableIn (off := 121) (tgt := 153) hx hb dL_law_32 (by omega) (by omega) (by rw [q1]; rfl) (by decide) ?_
        exact lw_op1 C0 hK hv hl hag hg kk
      by_cases q2 : x.toInt = 2
      · refine lv_tableIn (off := 164) (tgt := 196) hx hb dL_law_32 (by omega) (by omega) (by rw [q2]; rfl) (by decide) ?_
        exact lw_op2 C0 hK hv hl hag hg kk
      by_cases q3 : x.toInt = 3
      · refine lv_tableIn (off := 197) (tgt := 229) hx hb dL_law_32 (by omega) (by omega) (by rw [q3]; rfl) (by decide) ?_
        exact lw_op3 C0 hK hv hl hag hg kk
      by_cases q4 : x.toInt = 4
      · refine lv_tableIn (off := 208) (tgt := 240) hx hb dL_law_32 (by omega) (by omega) (by rw [q4]; rfl) (by decide) ?_
        exact lw_op4 C0 hK hv hl hag hg kk
      by_cases q5 : x.toInt = 5
      · refine lv_tableIn (off := 221) (tgt := 253) hx hb dL_law_32 (by omega) (by omega) (by rw [q5]; rfl) (by decide) ?_
        exact lw_op5 C0 hK hv hl hag hg kk
      by_cases q6 : x.toInt = 6
      · refine lv_tableIn (off := 234) (tgt := 266) hx hb dL_law_32 (by omega) (by omega) (by rw [q6]; rfl) (by decide) ?_
        exact lw_op6 C0 hK hv hl hag hg kk
      by_cases q7 : x.toInt = 7
      · refine lv_tableIn (off := 247) (tgt := 279) hx hb dL_law_32 (by omega) (by omega) (by rw [q7]; rfl) (by decide) ?_
        exact lw_op7 C0 hK hv hl hag hg kk
      by_cases q8 : x.toInt = 8
      · refine lv_tableIn (off := 260) (tgt := 292) hx hb dL_law_32 (by omega) (by omega) (by rw [q8]; rfl) (by decide) ?_
        exact lw_op8 C0 hK hv hl hag hg kk
      by_cases q9 : x.toInt = 9
      · refine lv_tableIn (off := 273) (tgt := 305) hx hb dL_law_32 (by omega) (by omega) (by rw [q9]; rfl) (by decide) ?_
        exact lw_op9 C0 hK hv hl hag hg kk
      by_cases q10 : x.toInt = 10
      · refine lv_tableIn (off := 306) (tgt := 338) hx hb dL_law_32 (by omega) (by omega) (by rw [q10]; rfl) (by decide) ?_
        exact lw_op10 C0 hK hv hl hag hg kk
      by_cases q11 : x.toInt = 11
      · refine lv_tableIn (off := 329) (tgt := 361) hx hb dL_law_32 (by omega) (by omega) (by rw [q11]; rfl) (by decide) ?_
        exact lw_op11 C0 hK hv hl hag hg kk
      by_cases q12 : x.toInt = 12
      · refine lv_tableIn (off := 352) (tgt := 384) hx hb dL_law_32 (by omega) (by omega) (by rw [q12]; rfl) (by decide) ?_
        exact lw_op12 C0 hK hv hl hag hg kk
      refine lv_tableOut (tgt := 407) hx hb dL_law_32 (by omega) (by decide) ?_
      exact kk σ τ H locs hag hg
end LL
