/-! pure rows: the reference: bottleneck over all masks -/
section BOT2
variable {n : Nat} {fr to : Nat → Nat} {cp cs sp : Nat → Int}
/-- after the masks below i: none that counts; or the least L of them, and what all that have it have in common -/
def bo_L (n : Nat) (fr to : Nat → Nat) (cp sp : Nat → Int) (i : Nat) (x1 x2 : Int32) : Prop :=
  (x1 = -1000004 ∧ ∀ s, s < i → ¬ cu_ok n fr to cp (ms s)) ∨
  ∃ B : Nat, x1 = nI B ∧ B < 256 ∧ (∃ s, s < i ∧ cu_ok n fr to cp (ms s) ∧ cv n fr to cp sp s = x2.toInt) ∧ (∀ s, s < i → cu_ok n fr to cp (ms s) → x2.toInt ≤ cv n fr to cp sp s) ∧ ∀ v, v < 8 → (B.testBit v = true ↔ ∀ s, s < i → cu_ok n fr to cp (ms s) → cv n fr to cp sp s = x2.toInt → s.testBit v = true)
theorem p_bo7 (hV : md_V n fr to cp cs) (hsp : ∀ v, v < 8 → -31 ≤ sp v ∧ sp v ≤ 31) {σ : fl_St} (hN : md_N σ n fr to cp cs sp) :
    ∀ (F i : Nat) (x1 x2 : Int32), i ≤ 256 → 256 - i < F → bo_L n fr to cp sp i x1 x2 → ∃ r y2, f_X3_bottleneck_l7 σ F x1 x2 (nI i) = some r ∧ bo_L n fr to cp sp 256 r y2 := by
  have hn := hV.1
  have hc : ∀ a, a < n → -1 ≤ cp a ∧ cp a ≤ 30 := fun a ha => (hV.2.2 a ha).1
  intro F
  induction F with
  | zero => intro i x1 x2 h1 h2; omega
  | succ F ih =>
    intro i x1 x2 h1 h2 hL
    by_cases c : i = 256
    · subst c
      exact ⟨x1, x2, by rw [f_X3_bottleneck_l7, if_pos (by decide)], hL⟩
    · have hi : i < 256 := by omega
      have hn256 : ¬ (256 : Int32) ≤ nI i := nI_ge (a := i) (b := 256) hi (by omega)
      obtain ⟨r1, a1, a2, a3, a4⟩ := p_bo20 (σ := σ) hsp (fun v hv => hN.2.2 v hv) hi x1 x2 fl_N 0 0 (by omega) (by unfold fl_N; omega) (by rfl) (by decide) (by decide)
      obtain ⟨r2, b1, b2⟩ := p_bo110 hV hN hi x1 x2 ⟨a3, a4⟩ fl_N 0 r1 (by omega) (by unfold fl_N; omega) (by show r1.toInt = r1.toInt + 0; omega) a3 (by omega)
      have hcv : r2.toInt = cv n fr to cp sp i := by rw [b2, a2]; rfl
      rw [f_X3_bottleneck_l7, if_neg hn256, show f_X3_bottleneck_l20 x1 x2 (nI i) σ fl_N 0 0 = some r1 from a1, fl_bs, show f_X3_bottleneck_l110 x1 x2 (nI i) σ fl_N r1 0 = some r2 from b1, fl_bs, nI_1]
      have h5 : (500000 : Int32).toInt = 500000 := by decide
      have hne : ∀ B, B < 256 → nI B ≠ -1000004 := fun B hB e => by
        have e2 := congrArg Int32.toInt e
        rw [nI_t (by omega), show (-1000004 : Int32).toInt = -1000004 by decide] at e2
        omega
      by_cases ok : cu_ok n fr to cp (ms i)
      · have hsm := cv_small hn hc hsp ok
        rw [if_neg (by rw [i_le, h5, hcv]; omega)]
        -- it is the best so far
        have hnew : (∀ s, s < i → cu_ok n fr to cp (ms s) → r2.toInt < cv n fr to cp sp s) → bo_L n fr to cp sp (i + 1) (nI i) r2 := by
          intro hlt
          refine Or.inr ⟨i, rfl, hi, ⟨i, by omega, ok, hcv.symm⟩, fun s hs hok => ?_, fun v hv => ⟨fun q s hs hok he => ?_, fun q => q i (by omega) ok hcv.symm⟩⟩
          · by_cases e : s = i
            · rw [e]; omega
            · have := hlt s (by omega) hok; omega
          · by_cases e : s = i
            · rw [e]; exact q
            · have := hlt s (by omega) hok; omega
        rcases hL with ⟨rfl, hno⟩ | ⟨B, rfl, hB, ⟨s0, t1, t2, t3⟩, hmin, hbit⟩
        · rw [if_pos rfl, fl_b2s]
          exact ih (i + 1) (nI i) r2 (by omega) (by omega) (hnew (fun s hs hok => absurd hok (hno s hs)))
        · rw [if_neg (hne B hB)]
          by_cases c1 : r2.toInt < x2.toInt
          · rw [if_neg (by rw [i_le]; omega), fl_b2s]
            exact ih (i + 1) (nI i) r2 (by omega) (by omega) (hnew (fun s hs hok => by have := hmin s hs hok; omega))
          · rw [if_pos (by rw [i_le]; omega)]
            by_cases c2 : r2.toInt = x2.toInt
            · rw [if_pos (by rw [i_eq]; exact c2), fl_b2s, nI_and]
              have hBi : B &&& i < 256 := Nat.lt_of_le_of_lt Nat.and_le_left hB
              refine ih (i + 1) (nI (B &&& i)) x2 (by omega) (by omega) (Or.inr ⟨B &&& i, rfl, hBi, ⟨s0, by omega, t2, t3⟩, fun s hs hok => ?_, fun v hv => ?_⟩)
              · by_cases e : s = i
                · rw [e]; omega
                · exact hmin s (by omega) hok
              · rw [Nat.testBit_and, Bool.and_eq_true, hbit v hv]
                refine ⟨fun q s hs hok he => ?_, fun q => ⟨fun s hs hok he => q s (by omega) hok he, q i (by omega) ok (by omega)⟩⟩
                by_cases e : s = i
                · rw [e]; exact q.2
                · exact q.1 s (by omega) hok he
            · rw [if_neg (by rw [i_eq]; exact c2), fl_b2s]
              refine ih (i + 1) (nI B) x2 (by omega) (by omega) (Or.inr ⟨B, rfl, hB, ⟨s0, by omega, t2, t3⟩, fun s hs hok => ?_, fun v hv => ?_⟩)
              · by_cases e : s = i
                · rw [e]; omega
                · exact hmin s (by omega) hok
              · rw [hbit v hv]
                refine ⟨fun q s hs hok he => ?_, fun q s hs hok he => q s (by omega) hok he⟩
                by_cases e : s = i
                · rw [e] at he; omega
                · exact q s (by omega) hok he
      · have hbad := cv_bad (sp := sp) (fun a ha => (hc a ha).1) ok
        rw [if_pos (by rw [i_le, h5, hcv]; omega), fl_b2s]
        refine ih (i + 1) x1 x2 (by omega) (by omega) ?_
        rcases hL with ⟨rfl, hno⟩ | ⟨B, rfl, hB, ⟨s0, t1, t2, t3⟩, hmin, hbit⟩
        · refine Or.inl ⟨rfl, fun s hs => ?_⟩
          by_cases e : s = i
          · rw [e]; exact ok
          · exact hno s (by omega)
        · refine Or.inr ⟨B, rfl, hB, ⟨s0, by omega, t2, t3⟩, fun s hs hok => ?_, fun v hv => ?_⟩
          · by_cases e : s = i
            · rw [e] at hok; exact absurd hok ok
            · exact hmin s (by omega) hok
          · rw [hbit v hv]
            refine ⟨fun q s hs hok he => ?_, fun q s hs hok he => q s (by omega) hok he⟩
            by_cases e : s = i
            · rw [e] at hok; exact absurd hok ok
            · exact q s (by omega) hok he
theorem cu_cg (ha : fl_Ar 8 n fr to) {s t : Nat → Int} (hs : ∀ v, s v = 0 ∨ s v = 1) (ht : ∀ v, t v = 0 ∨ t v = 1) (h : ∀ v, v < 8 → s v = t v) : (cu_ok n fr to cp s → cu_ok n fr to cp t) ∧ cu_v n fr to cp sp s = cu_v n fr to cp sp t := by
  refine ⟨fun hk => ⟨ht, fun a h1 q1 q2 => hk.2 a h1 (by rw [h _ (ha a h1).1]; exact q1) (by rw [h _ (ha a h1).2.1]; exact q2)⟩, ?_⟩
  unfold cu_v
  congr 1
  · exact fl_S_congr (fun v hv => by rw [h v hv])
  · exact fl_S_congr (fun a h1 => by rw [h _ (ha a h1).1, h _ (ha a h1).2.1])
/-- the reference's answer is the set that is part of all the others -/
theorem p_bottM (hV : md_V n fr to cp cs) (hsp : ∀ v, v < 8 → -31 ≤ sp v ∧ sp v ≤ 31) {σ : fl_St} (hN : md_N σ n fr to cp cs sp) {M : Nat} {s : Nat → Int} (hM : M < 256) (hb : ∀ v, v < 8 → (M.testBit v = true ↔ s v = 1)) (hs : bo_I n fr to cp sp s) : f_X3_bottleneck σ = some (nI M) := by
  have har := hV.2.1
  obtain ⟨r, y2, e1, e2⟩ := p_bo7 hV hsp hN fl_N 0 (-1000004) 0 (by omega) (by unfold fl_N; omega) (Or.inl ⟨rfl, fun s hs => by omega⟩)
  have hsm : ∀ v, v < 8 → s v = ms M v := fun v hv => by
    have h1 := hb v hv
    rcases hs.1.1 v with q | q
    · rw [q]
      refine ((ms0 M v).mpr ?_).symm
      by_cases c : M.testBit v = true
      · have := h1.mp c; omega
      · simpa using c
    · rw [q]
      exact ((ms1 M v).mpr (h1.mpr q)).symm
  obtain ⟨k1, k2⟩ := cu_cg (cp := cp) (sp := sp) har hs.1.1 (ms01 M) hsm
  have hokM := k1 hs.1
  have hfin : r = nI M := by
    rcases e2 with ⟨-, hno⟩ | ⟨B, rfl, hB, ⟨s0, t1, t2, t3⟩, hmin, hbit⟩
    · exact absurd hokM (hno M hM)
    · have hL : cv n fr to cp sp M = y2.toInt := by
        have h1 := hmin M hM hokM
        have h2 := (hs.2 (ms s0) t2).1
        rw [cv_ok t2] at t3
        rw [cv_ok hokM] at h1 ⊢
        omega
      congr 1
      refine Nat.eq_of_testBit_eq (fun i => ?_)
      by_cases c : i < 8
      · rw [Bool.eq_iff_iff, hbit i c]
        refine ⟨fun q => q M hM hokM hL, fun q t ht hok he => ?_⟩
        have h2 := (hs.2 (ms t) hok).2 (by
          rw [cv_ok hok] at he
          rw [cv_ok hokM] at hL
          omega) i c ((hb i c).mp q)
        exact (ms1 t i).mp h2
      · have p : 2 ^ 8 ≤ 2 ^ i := Nat.pow_le_pow_right (by decide) (by omega)
        rw [Nat.testBit_lt_two_pow (show B < 2 ^ i by omega), Nat.testBit_lt_two_pow (show M < 2 ^ i by omega)]
  unfold f_X3_bottleneck
  rw [show f_X3_bottleneck_l7 σ fl_N (-1000004) 0 0 = some r from e1, fl_bs, hfin]
end BOT2
