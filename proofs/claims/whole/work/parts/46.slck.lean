/-! pure rows: slack of the class -/
abbrev ck_s (cs : Nat → Int) (a : Nat) (k : Int) : Nat → Int := fl_up cs a (cs a + -k)
/-- with the cost less k the network is solved, and a flow that has m on the arc is a cheapest one -/
def sl_G (n : Nat) (fr to : Nat → Nat) (cp cs sp : Nat → Int) (a : Nat) (C m k : Int) : Prop := (∃ d, fl_PotU n fr to cp (ck_s cs a k) d) ∧ ∃ y, fl_Op n fr to cp (ck_s cs a k) sp y ∧ fl_cost n (ck_s cs a k) y = C - k * m
def sl_I (n : Nat) (fr to : Nat → Nat) (cp cs sp : Nat → Int) (a : Nat) (C m k : Int) : Prop := 0 ≤ k ∧ k ≤ 40 ∧ sl_G n fr to cp cs sp a C m k ∧ ∀ k', k < k' → k' ≤ 40 → ¬ sl_G n fr to cp cs sp a C m k'
theorem sl_I.eq {n : Nat} {fr to : Nat → Nat} {cp cs sp : Nat → Int} {a : Nat} {C m k k' : Int} (h : sl_I n fr to cp cs sp a C m k) (h' : sl_I n fr to cp cs sp a C m k') : k = k' := by
  rcases Int.lt_trichotomy k k' with q | q | q
  · exact absurd h'.2.2.1 (h.2.2.2 k' q h'.2.1)
  · exact q
  · exact absurd h.2.2.1 (h'.2.2.2 k q h.2.1)
section SLACK
variable {n : Nat} {fr to : Nat → Nat} {cp cs sp : Nat → Int}
theorem ck_cost {a : Nat} (ha : a < n) (k : Int) (y : Nat → Int) : fl_cost n (ck_s cs a k) y = fl_cost n cs y - k * y a := by
  have := fl_cost_g (c := cs) ha (-k) y
  rw [Int.neg_mul] at this
  exact this
theorem pu_cost {ρ g : Nat → Int} {j : Nat} (hj : j < 2 * n) (u : Int) : fl_cost n g (xo (pu ρ j u)) = fl_cost n g (xo ρ) + u * lk_w g j := by
  by_cases e : j % 2 = 0
  · obtain ⟨a, rfl⟩ : ∃ a, j = 2 * a := ⟨j / 2, by omega⟩
    have er : lk_r (2 * a) = 2 * a + 1 := by unfold lk_r; rw [if_pos (by omega)]
    have h1 : fl_cost n g (xo (pu ρ (2 * a) u)) = fl_cost n g (fl_up (xo ρ) a (xo ρ a + u)) := fl_S_congr (fun b hb => by
      by_cases e2 : b = a
      · subst e2
        rw [fl_up_s]
        have := pu_r ρ (2 * b) u
        rw [er] at this
        show g b * pu ρ (2 * b) u (2 * b + 1) = g b * (ρ (2 * b + 1) + u)
        rw [this]
      · rw [fl_up_n _ _ e2]
        show g b * pu ρ (2 * a) u (2 * b + 1) = g b * ρ (2 * b + 1)
        rw [pu_n _ _ (by omega) (by rw [er]; omega)])
    rw [h1, fl_cost_up (by omega), lk_w0, show xo ρ a + u - xo ρ a = u by omega, Int.mul_comm]
  · obtain ⟨a, rfl⟩ : ∃ a, j = 2 * a + 1 := ⟨j / 2, by omega⟩
    have er : lk_r (2 * a + 1) = 2 * a := by unfold lk_r; rw [if_neg (by omega)]; omega
    have h1 : fl_cost n g (xo (pu ρ (2 * a + 1) u)) = fl_cost n g (fl_up (xo ρ) a (xo ρ a - u)) := fl_S_congr (fun b hb => by
      by_cases e2 : b = a
      · subst e2
        rw [fl_up_s]
        show g b * pu ρ (2 * b + 1) u (2 * b + 1) = g b * (ρ (2 * b + 1) - u)
        rw [pu_j]
      · rw [fl_up_n _ _ e2]
        show g b * pu ρ (2 * a + 1) u (2 * b + 1) = g b * ρ (2 * b + 1)
        rw [pu_n _ _ (by omega) (by rw [er]; omega)])
    rw [h1, fl_cost_up (by omega), lk_w1, show xo ρ a - u - xo ρ a = -u by omega, Int.mul_neg, Int.mul_neg, Int.mul_comm]
theorem pu_path2 (ha : fl_Ar 8 n fr to) {g : Nat → Int} {op : Nat → Prop} {tm : Nat → Nat} {d en ρ0 E : Nat → Int} {a : Nat} (hZ : ck_Z (2 * n) op (lk_tl fr to) (lk_hd fr to) (lk_w g) d en tm) {u : Int} (h0 : 0 ≤ u) {s : Nat} :
    ∀ (k v : Nat) (ρ : Nat → Int), v < 8 → ck en (lk_tl fr to) (fun j => u ≤ ρ0 j ∧ j / 2 ≠ a) k v s → pu_I n fr to cp g sp d tm ρ0 E u s v ρ → (∀ i, i / 2 = a → ρ i = ρ0 i) →
      ∃ ρ', pu_I n fr to cp g sp d tm ρ0 E u s s ρ' ∧ (∀ i, i / 2 = a → ρ' i = ρ0 i) ∧ fl_cost n g (xo ρ') + u * d s = fl_cost n g (xo ρ) + u * d v := by
  intro k
  induction k with
  | zero =>
    intro v ρ hv hk hI hq
    obtain ⟨rfl, -⟩ := hk
    exact ⟨ρ, hI, hq, rfl⟩
  | succ k ih =>
    intro v ρ hv hk hI hq
    obtain ⟨j, j0, ⟨jP, jA⟩, hk⟩ := hk
    obtain ⟨dv, j', j1, j2, j3, j4, j5, j6, j7⟩ := hZ v hv (by omega)
    obtain rfl : j' = j := by omega
    obtain ⟨ρ', r1, r2, r3⟩ := ih _ _ (lk_in ha j1).1 hk (hI.step ha h0 j1 j4 j7 j5 dv j6 jP) (fun i hi => by
      have n1 : i ≠ j' := fun e => by subst e; exact jA hi
      have n2 : i ≠ lk_r j' := fun e => by
        subst e
        refine jA ?_
        rw [← hi]
        unfold lk_r
        split <;> omega
      rw [pu_n _ _ n1 n2]
      exact hq i hi)
    refine ⟨ρ', r1, r2, ?_⟩
    rw [r3, pu_cost j1, j6, Int.mul_add]
    omega
/-- the flow stays a cheapest one as long as no way round gets below 0 -/
theorem sl_good (hV : fl_V n fr to cp cs sp) {σ : fl_St} {a : Nat} (ha : a < n) (hM : mo_I σ n fr to cp cs sp a) (hnf : 0 < rv σ 8 (2 * a)) {d : Nat → Int} (hd0 : d (to a) = 0)
    (hd : ∀ j, j < 2 * n → 0 < rv σ 8 j → j / 2 ≠ a → d (lk_tl fr to j) < 1000000000 → d (lk_hd fr to j) ≤ d (lk_tl fr to j) + lk_w cs j ∧ d (lk_hd fr to j) < 1000000000) {k : Int} (hk : 0 ≤ k) (hkl : d (fr a) < 1000000000 → k ≤ cs a + d (fr a)) :
    sl_G n fr to cp cs sp a (fl_cost n cs (xo (rv σ 8))) (xo (rv σ 8) a) k := by
  obtain ⟨hop, -, hR, h840, pt, hs⟩ := hM
  have har := hV.2.1
  have hunb : ∀ b, b < n → cp b = -1 → 0 < rv σ 8 (2 * b) := fun b hb c => by
    have h1 : rv σ 8 (2 * b + 1) ≤ 840 := h840 b hb
    have h3 := (hR b hb).2.2
    unfold cU at h3
    rw [if_pos c] at h3
    omega
  -- what has room is not below 0 by pt
  have hpt : ∀ j, j < 2 * n → 0 < rv σ 8 j → pt (lk_hd fr to j) ≤ pt (lk_tl fr to j) + lk_w cs j := by
    intro j hj ho
    by_cases e : j % 2 = 0
    · obtain ⟨b, rfl⟩ : ∃ b, j = 2 * b := ⟨j / 2, by omega⟩
      rw [lk_t0, lk_h0, lk_w0]
      have hb : b < n := by omega
      by_cases c : cs b + pt (fr b) - pt (to b) < 0
      · obtain ⟨q1, q2⟩ := (hs b hb).1 c
        have q2 : rv σ 8 (2 * b + 1) = cp b := q2
        have h3 := (hR b hb).2.2
        unfold cU at h3
        rw [if_neg q1] at h3
        omega
      · omega
    · obtain ⟨b, rfl⟩ : ∃ b, j = 2 * b + 1 := ⟨j / 2, by omega⟩
      rw [lk_t1, lk_h1, lk_w1]
      have hb : b < n := by omega
      by_cases c : 0 < cs b + pt (fr b) - pt (to b)
      · have q2 : rv σ 8 (2 * b + 1) = 0 := (hs b hb).2 c
        omega
      · omega
  obtain ⟨P, hP⟩ : ∃ P : Nat → Int, P = fun v => if d v < 1000000000 then (if d v ≤ pt v - pt (to a) + k then d v else pt v - pt (to a) + k) else pt v - pt (to a) + k := ⟨_, rfl⟩
  have hP1 : ∀ v, d v < 1000000000 → P v = if d v ≤ pt v - pt (to a) + k then d v else pt v - pt (to a) + k := fun v h => by rw [hP]; exact if_pos h
  have hP2 : ∀ v, ¬ d v < 1000000000 → P v = pt v - pt (to a) + k := fun v h => by rw [hP]; exact if_neg h
  have hle : ∀ v, P v ≤ pt v - pt (to a) + k := fun v => by
    by_cases c : d v < 1000000000
    · rw [hP1 v c]; split <;> omega
    · rw [hP2 v c]; exact Int.le_refl _
  have hPt : P (to a) = 0 := by
    rw [hP1 _ (by rw [hd0]; decide), hd0, if_pos (by omega)]
  have hw : ∀ j, j < 2 * n → j / 2 ≠ a → lk_w (ck_s cs a k) j = lk_w cs j := fun j hj hne => by
    unfold lk_w
    rw [show ck_s cs a k (j / 2) = cs (j / 2) from fl_up_n _ _ hne]
  have hpot : bf_Pot (2 * n) (fun j => 0 < rv σ 8 j) (lk_tl fr to) (lk_hd fr to) (lk_w (ck_s cs a k)) P := by
    intro j hj ho
    by_cases e : j / 2 = a
    · have h1 := hpt (2 * a) (by omega) hnf
      rw [lk_t0, lk_h0, lk_w0] at h1
      rcases (show j = 2 * a ∨ j = 2 * a + 1 by omega) with rfl | rfl
      · rw [lk_t0, lk_h0, lk_w0, hPt]
        show 0 ≤ P (fr a) + fl_up cs a (cs a + -k) a
        rw [fl_up_s]
        by_cases c : d (fr a) < 1000000000
        · have := hkl c
          rw [hP1 _ c]
          split <;> omega
        · rw [hP2 _ c]; omega
      · rw [lk_t1, lk_h1, lk_w1, hPt]
        show P (fr a) ≤ 0 + -(fl_up cs a (cs a + -k) a)
        rw [fl_up_s]
        have h2 := hpt (2 * a + 1) (by omega) ho
        rw [lk_t1, lk_h1, lk_w1] at h2
        have h3 := hle (fr a)
        omega
    · rw [hw j hj e]
      have h1 := hpt j hj ho
      by_cases c : d (lk_tl fr to j) < 1000000000
      · obtain ⟨h2, h3⟩ := hd j hj ho e c
        rw [hP1 _ c, hP1 _ h3]
        split <;> split <;> omega
      · have h2 := hle (lk_hd fr to j)
        rw [hP2 _ c]
        omega
  have hsl := rm_slk (g := ck_s cs a k) hR hunb hpot
  refine ⟨⟨P, fun b hb c => ?_⟩, xo (rv σ 8), fl_opt har hop.1 hsl, ck_cost ha k _⟩
  have := hpot (2 * b) (by omega) (hunb b hb c)
  rw [lk_t0, lk_h0, lk_w0] at this
  exact this
/-- one unit more goes round at that loss -/
theorem sl_bad (har : fl_Ar 8 n fr to) {ρ : Nat → Int} {a : Nat} (ha : a < n) (hop : fl_Op n fr to cp cs sp (xo ρ)) (hR : rm_I n cp ρ) (hnf : 0 < ρ (2 * a)) {op : Nat → Prop} {d en : Nat → Int} {tm : Nat → Nat} (hopj : ∀ j, j < 2 * n → op j → 1 ≤ ρ j ∧ j / 2 ≠ a)
    (e2 : ck_Z (2 * n) op (lk_tl fr to) (lk_hd fr to) (lk_w cs) d en tm) (e3 : ∀ s, s < 8 → d s < 1000000000 → en s = -1 → s = to a) (e0 : d (to a) = 0) (hr : d (fr a) < 1000000000) {k' : Int} (hk' : cs a + d (fr a) < k') :
    ¬ sl_G n fr to cp cs sp a (fl_cost n cs (xo ρ)) (xo ρ a) k' := by
  rintro ⟨-, y, hy, hyc⟩
  obtain ⟨o1, o2, o3⟩ := har a ha
  obtain ⟨k, s, p1, p2, p3, p4⟩ := ck_ex (fun j hj => (lk_in har hj).1) e2 (tm (fr a) + 1) (fr a) (by omega) o1 hr
  rw [e3 s p2 p3 p4] at p1
  have hbal : ∀ q, q < 8 → sp q - fl_div n fr to (xo ρ) q = 0 := fun q hq => by
    have := hop.1.2 q hq
    omega
  have hck : ∀ k v, v < 8 → ck en (lk_tl fr to) op k v (to a) → ck en (lk_tl fr to) (fun j => 1 ≤ ρ j ∧ j / 2 ≠ a) k v (to a) := by
    intro k
    induction k with
    | zero => intro v hv h; exact h
    | succ k ih =>
      intro v hv h
      obtain ⟨j, j1, j2, j3⟩ := h
      obtain ⟨-, j', y2, y3, y4, y5, y6, y7, y8⟩ := e2 v hv (by omega)
      obtain rfl : j' = j := by omega
      exact ⟨j', j1, hopj j' y2 j2, ih _ (lk_in har y2).1 j3⟩
  have hst : pu_I n fr to cp cs sp d tm ρ (fun q => (if q = fr a then 1 else 0) - (if q = to a then 1 else 0)) 1 (to a) (fr a) ρ := by
    refine ⟨hR, fun q hq => ?_, fun _ _ _ _ => rfl, fun _ _ h => Or.inl h, fun _ _ => by omega⟩
    rw [hbal q hq]
    show 0 = (if q = fr a then 1 else 0) - (if q = to a then 1 else 0) + (if q = to a then 1 else 0) - (if q = fr a then 1 else 0)
    omega
  obtain ⟨ρ', ⟨r1, r2, -, -, -⟩, r6, r7⟩ := pu_path2 (a := a) har e2 (by decide) k (fr a) ρ o1 (hck k (fr a) o1 p1) hst (fun _ _ => rfl)
  have ha1 : ρ' (2 * a) = ρ (2 * a) := r6 _ (by omega)
  have ha2 : ρ' (2 * a + 1) = ρ (2 * a + 1) := r6 _ (by omega)
  have hR2 := r1.pu (j := 2 * a) (u := 1) (by omega) (by decide) (by omega)
  have hfl : fl_Fs n fr to cp sp (xo (pu ρ' (2 * a) 1)) := by
    refine ⟨rm_bd hR2, fun q hq => ?_⟩
    rw [pu_div ρ' (by omega), lk_t0, lk_h0, fl_ifc (fr a) q, fl_ifc (to a) q]
    have := r2 q hq
    have e : sp q - fl_div n fr to (xo ρ') q = (if q = fr a then 1 else 0) - (if q = to a then 1 else 0) + (if q = to a then 1 else 0) - (if q = to a then 1 else 0) := this
    omega
  have hc1 := pu_cost (n := n) (ρ := ρ') (g := cs) (j := 2 * a) (by omega) 1
  rw [lk_w0] at hc1
  have hya : xo (pu ρ' (2 * a) 1) a = ρ (2 * a + 1) + 1 := by
    have := pu_r ρ' (2 * a) 1
    rw [show lk_r (2 * a) = 2 * a + 1 by unfold lk_r; rw [if_pos (by omega)]] at this
    show pu ρ' (2 * a) 1 (2 * a + 1) = _
    omega
  have hle := hy.2 _ hfl
  rw [hyc, ck_cost ha, hya] at hle
  have hxa : xo ρ a = ρ (2 * a + 1) := rfl
  rw [e0] at r7
  have hm : k' * (ρ (2 * a + 1) + 1) = k' * ρ (2 * a + 1) + k' := by rw [Int.mul_add]; omega
  rw [hm, hxa] at hle
  omega
theorem p_slack (hV : fl_V n fr to cp cs sp) {σ : fl_St} (hN : cl_N σ n fr to cp cs sp) {a : Nat} (ha : a < n) (hA : f_X2_isArc (nI a) σ = some 1) :
    ∃ (r : Int32) (σ' : fl_St), f_X2_slack (nI a) σ = some (r, σ') ∧ cl_N σ' n fr to cp cs sp ∧
      ((r = -1000002 ∧ ¬ ∃ y, fl_Fs n fr to cp sp y) ∨ (r = -1000003 ∧ (∃ y, fl_Fs n fr to cp sp y) ∧ ¬ ∃ d, fl_PotU n fr to cp cs d) ∨
        ((∃ d, fl_PotU n fr to cp cs d) ∧ (∃ y, fl_Fs n fr to cp sp y) ∧ ((r = 0 ∧ ¬ ∃ d, fl_PotU n fr to cp (gt cs a (-1)) d) ∨ ((∃ d, fl_PotU n fr to cp (gt cs a (-1)) d) ∧ ∃ x, fl_Op n fr to cp cs sp x ∧ (∀ y, fl_Op n fr to cp cs sp y → y a ≤ x a) ∧ sl_I n fr to cp cs sp a (fl_cost n cs x) (x a) r.toInt)))) := by
  obtain ⟨r, σ1, a1, a2, a3⟩ := p_most hV hN ha hA
  have hn := hV.1
  have har := hV.2.1
  unfold f_X2_slack
  rw [a1, fl_b2s]
  rcases a3 with ⟨rfl, a3⟩ | ⟨rfl, a3⟩ | ⟨a3, ⟨rfl, a4, a5⟩ | ⟨a4, rfl, a5, hM⟩⟩
  · rw [if_neg (by decide), if_neg (by decide)]
    exact ⟨_, σ1, rfl, a2, Or.inl ⟨rfl, a3⟩⟩
  · rw [if_neg (by decide), if_neg (by decide)]
    exact ⟨_, σ1, rfl, a2, Or.inr (Or.inl ⟨rfl, a3⟩)⟩
  · rw [if_pos (by decide)]
    exact ⟨_, σ1, rfl, a2, Or.inr (Or.inr ⟨a3, a4, Or.inl ⟨rfl, a5⟩⟩)⟩
  · obtain ⟨q0, q1, q2, q3⟩ := a2.2.1 a ha
    obtain ⟨o1, o2, o3⟩ := har a ha
    obtain ⟨⟨c1, c2⟩, c3, c4⟩ := hV.2.2.1 a ha
    have hM0 := hM
    obtain ⟨hop, hmax, hR, h840, pt, hs⟩ := hM
    have h840a : rv σ1 8 (2 * a + 1) ≤ 840 := h840 a ha
    have hRa := hR a ha
    have z : (0 : Int32).toInt = 0 := by decide
    rw [if_neg (fun q => by rw [q, show (-1000004 : Int32).toInt = -1000004 by decide] at a5; omega), if_pos (by rw [i_le, z]; exact a5), fl_rd_n (by omega) (by omega), fl_bs]
    by_cases cc : rv σ1 8 (2 * a + 1) = cp a
    · rw [if_pos (by rw [i_eq, q2]; exact cc)]
      refine ⟨40, σ1, rfl, a2, Or.inr (Or.inr ⟨a3, ⟨_, hop.1⟩, Or.inr ⟨a4, _, hop, hmax, by decide, by decide, ⟨?_, ?_⟩, fun k' h1 h2 => ?_⟩⟩)⟩
      · obtain ⟨d, hd⟩ := a3
        refine ⟨d, fun b hb hc => ?_⟩
        have hne : b ≠ a := fun e => by subst e; omega
        show d (to b) ≤ d (fr b) + fl_up cs a _ b
        rw [fl_up_n _ _ hne]
        exact hd b hb hc
      · refine ⟨_, ⟨hop.1, fun y hy => ?_⟩, ck_cost ha _ _⟩
        rw [ck_cost ha, ck_cost ha]
        have h1 := hop.2 y hy
        have h2 : y a ≤ cp a := by have := (hy.1 a ha).2; omega
        have e : (40 : Int32).toInt = 40 := by decide
        have e2 : xo (rv σ1 8) a = cp a := cc
        rw [e, e2]
        omega
      · have e : (40 : Int32).toInt = 40 := by decide
        omega
    · rw [if_neg (fun q => cc (by rw [i_eq, q2] at q; exact q))]
      have hnf : 0 < rv σ1 8 (2 * a) := by
        have h3 := hRa.2.2
        unfold cU at h3
        have h5 := (rm_bd hR a ha).2
        have h5 : cp a = -1 ∨ rv σ1 8 (2 * a + 1) ≤ cp a := h5
        split at h3 <;> omega
      obtain ⟨σ2, b1, b2, b3, b4⟩ := p_lay hV (x1 := 1) (sc := 1) (by decide) (by decide) a2
      rw [fl_one] at b3
      have e8 : rv σ2 8 = rv σ1 8 := rv_k (b2 8 (by decide) (by decide) (by decide))
      obtain ⟨g0, g1, g2, g3⟩ := b4.2.1 a ha
      have hopj : ∀ j, j < 2 * n → (cl_op σ2 (nI a) j ↔ 0 < rv σ1 8 j ∧ j / 2 ≠ a) := fun j hj => by
        rw [← e8]
        exact ⟨fun q => ⟨q.1, fun e => q.2 (by rw [e])⟩, fun q => ⟨q.1, fun e => q.2 ((nI_eq (by omega) (by omega)).mp e)⟩⟩
      have hpot : bf_Pot (2 * n) (cl_op σ2 (nI a)) (lk_tl fr to) (lk_hd fr to) (lk_w cs) pt := by
        intro j hj ho
        have ho := ((hopj j hj).mp ho).1
        by_cases e : j % 2 = 0
        · obtain ⟨b, rfl⟩ : ∃ b, j = 2 * b := ⟨j / 2, by omega⟩
          rw [lk_t0, lk_h0, lk_w0]
          have hb : b < n := by omega
          by_cases c : cs b + pt (fr b) - pt (to b) < 0
          · obtain ⟨q1, q2⟩ := (hs b hb).1 c
            have q2 : rv σ1 8 (2 * b + 1) = cp b := q2
            have h3 := (hR b hb).2.2
            unfold cU at h3
            rw [if_neg q1] at h3
            omega
          · omega
        · obtain ⟨b, rfl⟩ : ∃ b, j = 2 * b + 1 := ⟨j / 2, by omega⟩
          rw [lk_t1, lk_h1, lk_w1]
          have hb : b < n := by omega
          by_cases c : 0 < cs b + pt (fr b) - pt (to b)
          · have q2 : rv σ1 8 (2 * b + 1) = 0 := (hs b hb).2 c
            omega
          · omega
      have hw : ∀ j, j < 2 * n → -50461 ≤ lk_w cs j ∧ lk_w cs j ≤ 50461 := by
        intro j hj
        have := hV.2.2.1 (j / 2) (by omega)
        unfold lk_w
        split <;> omega
      obtain ⟨b, σ3, d1, d2, d3, e0, e1, ⟨tm, e2⟩, e3, e4⟩ := p_canReach hn har hw b3 ⟨pt, hpot⟩ o2 o1
      rw [b1, fl_bs, fl_rd_n (by omega) (by omega), fl_bs, fl_rd_n (by omega) (by omega), fl_bs, g0, g1, d1, fl_b2s]
      have hN3 := b4.mv (fun k hk => d2 k (by omega) (by omega))
      have hgood : ∀ k : Int, 0 ≤ k → (rv σ3 10 (fr a) < 1000000000 → k ≤ cs a + rv σ3 10 (fr a)) → sl_G n fr to cp cs sp a (fl_cost n cs (xo (rv σ1 8))) (xo (rv σ1 8) a) k := fun k h1 h2 =>
        sl_good hV ha hM0 hnf (d := rv σ3 10) e0 (fun j hj ho hne hd => e1 j hj ((hopj j hj).mpr ⟨ho, hne⟩) hd) h1 h2
      cases b with
      | false =>
        rw [if_pos (by decide)]
        have hnr : ¬ rv σ3 10 (fr a) < 1000000000 := fun q => by have := d3.mpr q; cases this
        refine ⟨40, σ3, rfl, hN3, Or.inr (Or.inr ⟨a3, ⟨_, hop.1⟩, Or.inr ⟨a4, _, hop, hmax, by decide, by decide, hgood _ (by decide) (fun q => absurd q hnr), fun k' h1 h2 => ?_⟩⟩)⟩
        have e : (40 : Int32).toInt = 40 := by decide
        omega
      | true =>
        have hr := d3.mp rfl
        have hb4 := e4 _ o1 hr
        rw [if_neg (by decide)]
        obtain ⟨h0, h1, h2, h3⟩ := hN3.2.1 a ha
        unfold f_X1_distanceTo
        rw [fl_rd_n (by omega) (by omega), fl_bs, fl_rd_n (by omega) (by omega), fl_bs, h0, fl_rd_n o1 (by omega), fl_bs, fl_bs]
        have hsum : (σ3 3 a + σ3 10 (fr a)).toInt = cs a + rv σ3 10 (fr a) := by
          rw [i_add (by rw [h3]; show _ ≤ cs a + rv σ3 10 (fr a); omega) (by rw [h3]; show cs a + rv σ3 10 (fr a) ≤ _; omega), h3]
        have e40 : (40 : Int32).toInt = 40 := by decide
        -- the way round with one unit more
        have hbad : ∀ k' : Int, cs a + rv σ3 10 (fr a) < k' → ¬ sl_G n fr to cp cs sp a (fl_cost n cs (xo (rv σ1 8))) (xo (rv σ1 8) a) k' := fun k' hk' =>
          sl_bad har ha hop hR hnf (op := cl_op σ2 (nI a)) (fun j hj o => by have := (hopj j hj).mp o; exact ⟨by omega, this.2⟩) e2 e3 e0 hr hk'
        have h0l : 0 ≤ cs a + rv σ3 10 (fr a) := by
          rcases Int.lt_or_le (cs a + rv σ3 10 (fr a)) 0 with q | q
          · exfalso
            refine hbad 0 q ⟨?_, xo (rv σ1 8), ?_, ?_⟩
            · obtain ⟨d, hd⟩ := a3
              refine ⟨d, fun b hb hc => ?_⟩
              have := hd b hb hc
              show d (to b) ≤ d (fr b) + fl_up cs a (cs a + -0) b
              by_cases e : b = a
              · subst e; rw [fl_up_s]; omega
              · rw [fl_up_n _ _ e]; exact this
            · refine ⟨hop.1, fun y hy => ?_⟩
              rw [ck_cost ha, ck_cost ha]
              have := hop.2 y hy
              omega
            · exact ck_cost ha 0 _
          · exact q
        by_cases cl : cs a + rv σ3 10 (fr a) < 40
        · rw [if_pos (by rw [i_lt, hsum, e40]; exact cl)]
          refine ⟨_, σ3, rfl, hN3, Or.inr (Or.inr ⟨a3, ⟨_, hop.1⟩, Or.inr ⟨a4, _, hop, hmax, ?_⟩⟩)⟩
          rw [hsum]
          exact ⟨h0l, by omega, hgood _ h0l (fun _ => Int.le_refl _), fun k' h1 _ => hbad k' h1⟩
        · rw [if_neg (by rw [i_lt, hsum, e40]; exact cl)]
          refine ⟨_, σ3, rfl, hN3, Or.inr (Or.inr ⟨a3, ⟨_, hop.1⟩, Or.inr ⟨a4, _, hop, hmax, by decide, by decide, hgood _ (by decide) (fun _ => by rw [e40]; omega), fun k' h1 h2 => ?_⟩⟩)⟩
          omega
end SLACK
