/-! pure rows: bottleneck of the class -/
theorem nI_bit : ∀ M, M < 256 → ∀ i, i < 8 → nI M ||| ((1 : Int32) <<< (nI i &&& 31)) = nI (M ||| 2 ^ i) := by decide +kernel
theorem p_mask_in (σ : fl_St) : ∀ (f i M : Nat), i ≤ 8 → 8 - i < f → M < 2 ^ i → (∀ v, v < i → (M.testBit v = true ↔ rv σ 10 v < 1000000000)) →
    ∃ M', f_X1_nodesBehindExcess_l13 σ f (nI M) (nI i) = some (nI M') ∧ M' < 256 ∧ ∀ v, v < 8 → (M'.testBit v = true ↔ rv σ 10 v < 1000000000) := by
  intro f
  induction f with
  | zero => intro i M h1 h2; omega
  | succ f ih =>
    intro i M h1 h2 hM hb
    by_cases c : i = 8
    · subst c
      exact ⟨M, by rw [f_X1_nodesBehindExcess_l13]; rfl, hM, hb⟩
    · have hp : 2 ^ i < 2 ^ 8 := Nat.pow_lt_pow_right (by decide) (by omega)
      have hM2 : M < 256 := by omega
      have hs : 2 ^ (i + 1) = 2 ^ i + 2 ^ i := by rw [Nat.pow_succ]; omega
      have hib : M.testBit i = false := Nat.testBit_lt_two_pow hM
      rw [f_X1_nodesBehindExcess_l13, if_neg (nI_8 (by omega)), fl_rd_n (by omega) (by omega), fl_bs, nI_1, nI_bit M hM2 i (by omega)]
      have e : ((1000000000 : Int32) ≤ σ 10 i) ↔ ¬ rv σ 10 i < 1000000000 := by
        rw [i_le]
        have : (1000000000 : Int32).toInt = 1000000000 := by decide
        show _ ↔ ¬ (σ 10 i).toInt < 1000000000
        omega
      by_cases c2 : rv σ 10 i < 1000000000
      · rw [if_neg (fun q => (e.mp q) c2), fl_bs]
        have hor : M ||| 2 ^ i < 2 ^ (i + 1) := Nat.or_lt_two_pow (by omega) (by omega)
        refine ih (i + 1) (M ||| 2 ^ i) (by omega) (by omega) hor (fun v hv => ?_)
        rw [Nat.testBit_or, Nat.testBit_two_pow]
        by_cases c3 : v = i
        · subst c3
          simp [c2]
        · have := hb v (by omega)
          have hne : ¬ i = v := fun q => c3 q.symm
          simp [hne, this]
      · rw [if_pos (e.mpr c2), fl_bs]
        refine ih (i + 1) M (by omega) (by omega) (by omega) (fun v hv => ?_)
        by_cases c3 : v = i
        · subst c3
          simp [hib, c2]
        · exact hb v (by omega)
section BOTT
variable {n : Nat} {fr to : Nat → Nat} {cp cs sp : Nat → Int}
theorem p_bottleneck (hV : fl_V n fr to cp cs sp) {σ : fl_St} (hN : cl_N σ n fr to cp cs sp) :
    ∃ (M : Nat) (σ' : fl_St) (s : Nat → Int), f_X2_bottleneck σ = some (nI M, σ') ∧ cl_N σ' n fr to cp cs sp ∧ M < 256 ∧ (∀ v, v < 8 → (M.testBit v = true ↔ s v = 1)) ∧ bo_I n fr to cp sp s := by
  obtain ⟨σ1, σ2, a1, a2, a3, a4, ex0, a5, hI, hE⟩ := p_free hV hN
  have hn := hV.1
  have ha := hV.2.1
  obtain ⟨σ3, b1, b2, b3⟩ := p_startX σ2
  have e8 : rv σ3 8 = rv σ2 8 := rv_k (b2 8 (by decide) (by decide))
  have hop : ∀ j, j < 2 * n → (cl_op σ3 (-1) j ↔ 0 < rv σ2 8 j) := fun j hj => by
    rw [← e8]
    exact ⟨fun q => q.1, fun q => ⟨q, nI_m1 (by omega)⟩⟩
  have hp2 : ∃ pt, bf_Pot (2 * n) (cl_op σ3 (-1)) (lk_tl fr to) (lk_hd fr to) (lk_w (fun _ => 0)) pt := by
    obtain ⟨pt, hpt⟩ := hI.2.2.1
    exact ⟨pt, fun j hj ho => hpt j hj ((hop j hj).mp ho)⟩
  have hw : ∀ j, j < 2 * n → -50461 ≤ lk_w (fun _ => 0) j ∧ lk_w (fun _ => 0) j ≤ 50461 := fun j _ => by unfold lk_w; split <;> simp
  obtain ⟨T', σ4, c1, c2, c3, z1, z2, z3, ⟨tm, z4⟩, z5⟩ := p_measure (x1 := -1) hn ha hw (b2.L a4) (fun v hv => by rw [(b3 v hv).1]; split; exact Or.inr rfl; exact Or.inl rfl) (fun v hv => (b3 v hv).2) hp2
  obtain ⟨M, m1, m2, m3⟩ := p_mask_in σ4 fl_N 0 0 (by omega) (by unfold fl_N; omega) (by decide) (fun v hv => by omega)
  have hT : (50461 : Int) * (T' : Int) ≤ 50461 * 400 := Int.mul_le_mul_of_nonneg_left (by omega) (by decide)
  have hclo : ∀ j, j < 2 * n → 0 < rv σ2 8 j → rv σ4 10 (lk_tl fr to j) < 1000000000 → rv σ4 10 (lk_hd fr to j) < 1000000000 := by
    intro j hj ho hd
    have h1 := z3 j hj ((hop j hj).mpr ho) hd
    have h2 := z5 _ (lk_in ha hj).1 hd
    have h3 := hw j hj
    omega
  refine ⟨M, σ4, fun v => if rv σ4 10 v < 1000000000 then 1 else 0, ?_, (a3.mv (fun k hk => b2 k (by omega) (by omega))).mv (fun k hk => c2 k (by omega) (by omega)), m2, ?_, ?_⟩
  · unfold f_X2_bottleneck f_X1_nodesBehindExcess
    rw [a1, fl_bs, a2, fl_b2s, b1, fl_bs, c1, fl_bs, show f_X1_nodesBehindExcess_l13 σ4 fl_N 0 0 = some (nI M) from m1, fl_bs, fl_b2s]
  · intro v hv
    rw [m3 v hv]
    by_cases c : rv σ4 10 v < 1000000000
    · simp [c]
    · simp [c]
  · have h01 : ∀ v, (if rv σ4 10 v < 1000000000 then (1 : Int) else 0) = 0 ∨ (if rv σ4 10 v < 1000000000 then (1 : Int) else 0) = 1 := fun v => by
      by_cases c : rv σ4 10 v < 1000000000
      · right; rw [if_pos c]
      · left; rw [if_neg c]
    have hs1 : ∀ v, (if rv σ4 10 v < 1000000000 then (1 : Int) else 0) = 1 → rv σ4 10 v < 1000000000 := fun v q => by
      by_cases c : rv σ4 10 v < 1000000000
      · exact c
      · rw [if_neg c] at q; omega
    obtain ⟨k1, k2⟩ := rt_cut hI h01 (fun j hj o q => if_pos (hclo j hj o (hs1 _ q)))
    -- what is wanting is not reached
    have hneg : ∀ v, v < 8 → rv σ2 9 v < 0 → ¬ rv σ4 10 v < 1000000000 := by
      obtain ⟨S, s1, s2, s3⟩ := hE
      have key : ∀ (N v : Nat), tm v < N → v < 8 → rv σ4 10 v < 1000000000 → S v := by
        intro N
        induction N with
        | zero => intro v h; omega
        | succ N ih =>
          intro v hN hv hd
          by_cases c : rv σ4 11 v = -1
          · have q := z2 v hv c
            rw [(b3 v hv).1] at q
            by_cases c5 : 0 < rv σ2 9 v
            · exact s1 v hv c5
            · rw [if_neg c5] at q; omega
          · obtain ⟨y1, j, y2, y3, y4, y5, y6, y7, y8⟩ := z4 v hv c
            have := s3 j y2 ((hop j y2).mp y4) (ih _ (by omega) (lk_in ha y2).1 y6)
            rwa [y5] at this
      intro v hv h9 hd
      exact s2 v hv h9 (key (tm v + 1) v (by omega) hv hd)
    obtain ⟨m4, m5⟩ := am_eq ha hI.2.1 h01 (fun v hv q => if_pos (by
      have h1 := z1 v hv
      rw [(b3 v hv).1, if_pos q] at h1
      omega)) (fun v hv q => if_neg (hneg v hv q)) k1 k2
    refine ⟨m4, fun t ht => ⟨by rw [m5]; exact am_le ha (rt_bd hV hI) hI.2.1 ht, fun hq => ?_⟩⟩
    rw [m5] at hq
    obtain ⟨t1, t2, t3⟩ := am_tight ha (rt_bd hV hI) hI.2.1 ht hq
    have key : ∀ (N v : Nat), tm v < N → v < 8 → rv σ4 10 v < 1000000000 → t v = 1 := by
      intro N
      induction N with
      | zero => intro v h; omega
      | succ N ih =>
        intro v hN hv hd
        by_cases c : rv σ4 11 v = -1
        · have q := z2 v hv c
          rw [(b3 v hv).1] at q
          by_cases c5 : 0 < rv σ2 9 v
          · exact t1 v hv c5
          · rw [if_neg c5] at q; omega
        · obtain ⟨y1, j, y2, y3, y4, y5, y6, y7, y8⟩ := z4 v hv c
          have ho := (hop j y2).mp y4
          have htl := ih _ (by omega) (lk_in ha y2).1 y6
          rcases ht.1 v with q | q
          · exfalso
            by_cases e : j % 2 = 0
            · obtain ⟨a, rfl⟩ : ∃ a, j = 2 * a := ⟨j / 2, by omega⟩
              rw [lk_t0] at htl
              rw [lk_h0] at y5
              have hx := t2 a (by omega) htl (by rw [y5]; exact q)
              have hb := ht.2 a (by omega) htl (by rw [y5]; exact q)
              obtain ⟨r1, r2, r3⟩ := hI.1 a (by omega)
              unfold cU at r3
              rw [if_neg hb] at r3
              have hx : rv σ2 8 (2 * a + 1) = cp a := hx
              omega
            · obtain ⟨a, rfl⟩ : ∃ a, j = 2 * a + 1 := ⟨j / 2, by omega⟩
              rw [lk_t1] at htl
              rw [lk_h1] at y5
              have hx := t3 a (by omega) (by rw [y5]; exact q) htl
              have hx : rv σ2 8 (2 * a + 1) = 0 := hx
              omega
          · exact q
    intro v hv q
    exact key (tm v + 1) v (by omega) hv (hs1 v q)
end BOTT
theorem bo_eq {n : Nat} {fr to : Nat → Nat} {cp sp s t : Nat → Int} (hs : bo_I n fr to cp sp s) (ht : bo_I n fr to cp sp t) {M M' : Nat} (hM : M < 256) (hM' : M' < 256) (h : ∀ v, v < 8 → (M.testBit v = true ↔ s v = 1)) (h' : ∀ v, v < 8 → (M'.testBit v = true ↔ t v = 1)) : M = M' := by
  have e1 := (hs.2 t ht.1).1
  have e2 := (ht.2 s hs.1).1
  have e3 := (hs.2 t ht.1).2 (by omega)
  have e4 := (ht.2 s hs.1).2 (by omega)
  refine Nat.eq_of_testBit_eq (fun i => ?_)
  by_cases c : i < 8
  · have q1 := h i c
    have q2 := h' i c
    have q3 : s i = 1 ↔ t i = 1 := ⟨e3 i c, e4 i c⟩
    rw [Bool.eq_iff_iff, q1, q2, q3]
  · have p : 2 ^ 8 ≤ 2 ^ i := Nat.pow_le_pow_right (by decide) (by omega)
    rw [Nat.testBit_lt_two_pow (show M < 2 ^ i by omega), Nat.testBit_lt_two_pow (show M' < 2 ^ i by omega)]
