/-! pure rows: the network as both hold it; most and slack of the reference -/
def ag_V (n : Nat) (fr to : Nat → Nat) (cp cs sp : Nat → Int) : Prop :=
  n ≤ 20 ∧ fl_Ar 8 n fr to ∧ (∀ a, a < n → (-1 ≤ cp a ∧ cp a ≤ 30) ∧ -20 ≤ cs a ∧ cs a ≤ 20) ∧ ∀ v, v < 8 → -30 ≤ sp v ∧ sp v ≤ 30
section AGV
variable {n : Nat} {fr to : Nat → Nat} {cp cs sp : Nat → Int}
theorem ag_V.V (h : ag_V n fr to cp cs sp) : fl_V n fr to cp cs sp := ⟨h.1, h.2.1, fun a ha => by have := h.2.2.1 a ha; omega, h.2.2.2⟩
theorem fl_V.H (h : fl_V n fr to cp cs sp) (hs : fl_S n (fun a => ab (cs a)) ≤ 440) : md_H n fr to cp cs sp := by
  refine ⟨⟨h.1, h.2.1, h.2.2.1⟩, fun v hv => by have := h.2.2.2 v hv; omega, hs, fun hP hF => ?_⟩
  obtain ⟨x, h1, h2⟩ := fl_small h hP hF
  exact ⟨x, h1, fun a ha => by have := h2 a ha; omega⟩
theorem ag_V.sm (h : ag_V n fr to cp cs sp) : fl_S n (fun a => ab (cs a)) ≤ 400 := by
  have h1 : fl_S n (fun a => ab (cs a)) ≤ fl_S n (fun _ => 20) := fl_S_le (fun a ha => by
    have := h.2.2.1 a ha
    unfold ab
    split <;> omega)
  rw [fl_S_cst] at h1
  have := h.1
  omega
theorem ag_V.H (h : ag_V n fr to cp cs sp) : md_H n fr to cp cs sp := h.V.H (by have := h.sm; omega)
theorem ag_V.kV (h : ag_V n fr to cp cs sp) {a : Nat} (ha : a < n) {k : Int} (hk : 0 ≤ k ∧ k ≤ 40) : fl_V n fr to cp (ck_s cs a k) sp := by
  refine ⟨h.1, h.2.1, fun b hb => ?_, h.2.2.2⟩
  obtain ⟨h1, h2, h3⟩ := h.2.2.1 b hb
  refine ⟨h1, ?_⟩
  by_cases e : b = a
  · subst e
    show -60 ≤ fl_up cs b _ b ∧ fl_up cs b _ b ≤ 60
    rw [fl_up_s]
    omega
  · show -60 ≤ fl_up cs a _ b ∧ fl_up cs a _ b ≤ 60
    rw [fl_up_n _ _ e]
    omega
theorem ag_V.kH (h : ag_V n fr to cp cs sp) {a : Nat} (ha : a < n) {k : Int} (hk : 0 ≤ k ∧ k ≤ 40) : md_H n fr to cp (ck_s cs a k) sp := by
  refine (h.kV ha hk).H ?_
  have h1 : fl_S n (fun b => ab (ck_s cs a k b)) ≤ fl_S n (fun b => ab (cs b) + (if b = a then (fun _ => k) b else 0)) := fl_S_le (fun b hb => by
    by_cases e : b = a
    · subst e
      show ab (fl_up cs b _ b) ≤ _
      rw [fl_up_s, if_pos rfl]
      show ab (cs b + -k) ≤ ab (cs b) + k
      unfold ab
      split <;> split <;> omega
    · show ab (fl_up cs a _ b) ≤ _
      rw [fl_up_n _ _ e, if_neg e]
      omega)
  rw [fl_S_add, fl_S_pick ha] at h1
  have := h.sm
  omega
theorem p_mostM (hH : md_H n fr to cp cs sp) {σ : fl_St} (hN : md_N σ n fr to cp cs sp) {a : Nat} (ha : a < n) (hA : f_X3_in (nI a) 0 (σ 13 0 - 1) σ = some 1) :
    ∃ (r : Int32) (σ' : fl_St), f_X3_most (nI a) σ = some (r, σ') ∧ md_N σ' n fr to cp cs sp ∧
      ((r = -1000002 ∧ ¬ ∃ y, fl_Fs n fr to cp sp y) ∨ (r = -1000003 ∧ (∃ y, fl_Fs n fr to cp sp y) ∧ ¬ ∃ d, fl_PotU n fr to cp cs d) ∨
        ((∃ d, fl_PotU n fr to cp cs d) ∧ (∃ y, fl_Fs n fr to cp sp y) ∧ ((r = -1000004 ∧ ¬ ∃ d, fl_PotU n fr to cp (gt cs a (-1)) d) ∨ ((∃ d, fl_PotU n fr to cp (gt cs a (-1)) d) ∧ ∃ x, fl_Op n fr to cp cs sp x ∧ r.toInt = x a ∧ ∀ y, fl_Op n fr to cp cs sp y → y a ≤ x a)))) := by
  obtain ⟨hV, hsp, hsum, hsm⟩ := hH
  obtain ⟨r, σ1, a1, a2, a3⟩ := p_solve hV hsp hsum hsm hN
  unfold f_X3_most
  rw [hA, fl_bs, if_neg (by decide), a1, fl_b2s]
  rcases a3 with ⟨rfl, a3⟩ | ⟨rfl, a3⟩ | ⟨rfl, a3, hS⟩
  · rw [if_neg (by decide), fl_b2s]
    exact ⟨_, σ1, rfl, a2, Or.inl ⟨rfl, a3⟩⟩
  · rw [if_neg (by decide), fl_b2s]
    exact ⟨_, σ1, rfl, a2, Or.inr (Or.inl ⟨rfl, a3⟩)⟩
  · obtain ⟨r2, σ2, b1, b2, b3⟩ := p_mostOf hV hsp a2 hS ha
    rw [if_pos (by decide), b1, fl_b2s, fl_b2s]
    refine ⟨r2, σ2, rfl, b2, Or.inr (Or.inr ⟨a3, ⟨_, hS.1.1⟩, ?_⟩)⟩
    rcases b3 with b3 | ⟨b3, x, x1, x2, -, x3⟩
    · exact Or.inl b3
    · exact Or.inr ⟨b3, x, x1, x2, x3⟩
theorem sl_l55_end (x1 x3 x4 x5 : Int32) (F : Nat) {x6 : Int32} (h : x6 ≠ 0) (x7 : Int32) (σ : fl_St) : f_X3_slack_l55 x1 x3 x4 x5 (F + 1) x6 x7 σ = some (x6, σ) := by
  rw [f_X3_slack_l55]
  by_cases c : x7 ≤ 0
  · rw [if_pos c]
  · rw [if_neg c, if_neg h]
theorem md_N.up {σ : fl_St} {z : Int} {a : Nat} (hN : md_N σ n fr to cp (fl_up cs a z) sp) {x : Int32} {z' : Int} (hx : x.toInt = z') : md_N (st σ 3 a x) n fr to cp (fl_up cs a z') sp := by
  obtain ⟨h1, h2, h3⟩ := hN
  refine ⟨by rw [st_k _ _ _ (by decide)]; exact h1, fun b hb => ?_, fun v hv => by rw [st_k _ _ _ (by decide)]; exact h3 v hv⟩
  obtain ⟨q0, q1, q2, q3⟩ := h2 b hb
  refine ⟨by rw [st_k _ _ _ (by decide)]; exact q0, by rw [st_k _ _ _ (by decide)]; exact q1, by rw [st_k _ _ _ (by decide)]; exact q2, ?_⟩
  by_cases e : b = a
  · subst e
    rw [st_s, fl_up_s]
    exact hx
  · rw [st_j _ _ _ e, fl_up_n _ _ e]
    rw [fl_up_n _ _ e] at q3
    exact q3
theorem p_sl55 (hA : ag_V n fr to cp cs sp) {a : Nat} (ha : a < n) {x3 x4 x5 : Int32} {C m : Int} (hx3 : x3.toInt = C) (hx4 : x4.toInt = m) (hx5 : x5.toInt = cs a) (hC : -1000000 ≤ C ∧ C ≤ 1000000) (hm : 0 ≤ m ∧ m ≤ 1000000) :
    ∀ (k F : Nat) (σ : fl_St) (z : Int), k ≤ 40 → k + 1 < F → md_N σ n fr to cp (fl_up cs a z) sp →
      ∃ (w : Int32) (σ' : fl_St) (z' : Int), f_X3_slack_l55 (nI a) x3 x4 x5 F 0 (nI k) σ = some (w, σ') ∧ md_N σ' n fr to cp (fl_up cs a z') sp ∧ 0 ≤ w.toInt ∧ w.toInt ≤ (k : Int) ∧ (w.toInt = 0 ∨ sl_G n fr to cp cs sp a C m w.toInt) ∧ ∀ k' : Int, w.toInt < k' → k' ≤ (k : Int) → ¬ sl_G n fr to cp cs sp a C m k' := by
  have hn := hA.1
  have z0 : (0 : Int32).toInt = 0 := by decide
  intro k
  induction k with
  | zero =>
    intro F σ z h1 h2 hN
    obtain ⟨F, rfl⟩ : ∃ G, F = G + 1 := ⟨F - 1, by omega⟩
    refine ⟨0, σ, z, ?_, hN, by decide, by decide, Or.inl z0, fun k' q1 q2 => by rw [z0] at q1; omega⟩
    rw [f_X3_slack_l55, if_pos (by decide)]
  | succ k ih =>
    intro F σ z h1 h2 hN
    obtain ⟨F, rfl⟩ : ∃ G, F = G + 1 := ⟨F - 1, by omega⟩
    have tk : (nI (k + 1)).toInt = (k : Int) + 1 := by rw [nI_t (by omega)]; omega
    have hne : x4 ≠ -1000004 := fun e => by
      rw [e, show (-1000004 : Int32).toInt = -1000004 by decide] at hx4
      omega
    obtain ⟨-, cA1, cA2⟩ := hA.2.2.1 a ha
    have hw5 : (x5 - nI (k + 1)).toInt = cs a + -((k : Int) + 1) := by rw [i_sub (by omega) (by omega)]; omega
    rw [f_X3_slack_l55, if_neg (by rw [i_le, tk, z0]; omega), if_pos rfl, if_neg hne, fl_wr_n (by omega) (by omega), fl_bs]
    have hN1 : md_N (st σ 3 a (x5 - nI (k + 1))) n fr to cp (ck_s cs a ((k : Int) + 1)) sp := hN.up hw5
    obtain ⟨hV, hsp, hsum, hsm⟩ := hA.kH ha (k := (k : Int) + 1) (by omega)
    obtain ⟨r, σ1, a1, a2, a3⟩ := p_solve hV hsp hsum hsm hN1
    rw [a1, fl_b2s]
    have hdec : nI (k + 1) + (-1) = nI k := by
      rw [i_eq, i_add (by rw [tk, show (-1 : Int32).toInt = -1 by decide]; omega) (by rw [tk, show (-1 : Int32).toInt = -1 by decide]; omega), tk, nI_t (by omega), show (-1 : Int32).toInt = -1 by decide]
      omega
    have hgo : ¬ sl_G n fr to cp cs sp a C m ((k : Int) + 1) → ∃ (w : Int32) (σ' : fl_St) (z' : Int), f_X3_slack_l55 (nI a) x3 x4 x5 F 0 (nI (k + 1) + (-1)) σ1 = some (w, σ') ∧ md_N σ' n fr to cp (fl_up cs a z') sp ∧ 0 ≤ w.toInt ∧ w.toInt ≤ ((k + 1 : Nat) : Int) ∧ (w.toInt = 0 ∨ sl_G n fr to cp cs sp a C m w.toInt) ∧ ∀ k' : Int, w.toInt < k' → k' ≤ ((k + 1 : Nat) : Int) → ¬ sl_G n fr to cp cs sp a C m k' := by
      intro hno
      obtain ⟨w, σ', z', e1, e2, e3, e4, e5, e6⟩ := ih F σ1 _ (by omega) (by omega) a2
      refine ⟨w, σ', z', by rw [hdec]; exact e1, e2, e3, by omega, e5, fun k' q1 q2 => ?_⟩
      by_cases c : k' ≤ (k : Int)
      · exact e6 k' q1 c
      · rw [show k' = (k : Int) + 1 by omega]
        exact hno
    rcases a3 with ⟨rfl, a3⟩ | ⟨rfl, a3⟩ | ⟨rfl, a3, hS⟩
    · rw [if_neg (by decide), fl_bs]
      exact hgo (fun hG => by
        obtain ⟨-, y, hy, -⟩ := hG
        exact a3 ⟨y, hy.1⟩)
    · rw [if_neg (by decide), fl_bs]
      exact hgo (fun hG => a3.2 hG.1)
    · rw [if_pos rfl]
      obtain ⟨hop, -, -, htot, -, -⟩ := hS
      have hkm : (nI (k + 1) * x4).toInt = ((k : Int) + 1) * m := by
        have p1 : 0 ≤ ((k : Int) + 1) * m := Int.mul_nonneg (by omega) hm.1
        have p2 : ((k : Int) + 1) * m ≤ 40 * m := Int.mul_le_mul_of_nonneg_right (by omega) hm.1
        rw [i_mul (by rw [tk, hx4]; omega) (by rw [tk, hx4]; omega), tk, hx4]
      have hr : (x3 - nI (k + 1) * x4).toInt = C - ((k : Int) + 1) * m := by
        have p1 : 0 ≤ ((k : Int) + 1) * m := Int.mul_nonneg (by omega) hm.1
        have p2 : ((k : Int) + 1) * m ≤ 40 * m := Int.mul_le_mul_of_nonneg_right (by omega) hm.1
        rw [i_sub (by rw [hkm]; omega) (by rw [hkm]; omega), hkm, hx3]
      by_cases c : fl_cost n (ck_s cs a ((k : Int) + 1)) (rv σ1 5) = C - ((k : Int) + 1) * m
      · rw [if_pos (by rw [i_eq, htot, hr]; exact c), fl_bs]
        obtain ⟨F, rfl⟩ : ∃ G, F = G + 1 := ⟨F - 1, by omega⟩
        rw [sl_l55_end _ _ _ _ _ (fun e => by rw [e, z0] at tk; omega)]
        exact ⟨_, σ1, _, rfl, a2, by rw [tk]; omega, by rw [tk]; omega, Or.inr (by rw [tk]; exact ⟨a3, _, hop, c⟩), fun k' q1 q2 => by rw [tk] at q1; omega⟩
      · rw [if_neg (fun q => by rw [i_eq, htot, hr] at q; exact c q), fl_bs]
        exact hgo (fun hG => by
          obtain ⟨-, y, hy, hc⟩ := hG
          have h1 := hy.2 _ hop.1
          have h2 := hop.2 _ hy.1
          omega)
theorem fl_up_id (f : Nat → Int) (a : Nat) : fl_up f a (f a) = f := by
  funext b
  by_cases e : b = a
  · rw [e, fl_up_s]
  · rw [fl_up_n _ _ e]
theorem p_slackM (hA : ag_V n fr to cp cs sp) {σ : fl_St} (hN : md_N σ n fr to cp cs sp) {a : Nat} (ha : a < n) (hI : f_X3_in (nI a) 0 (σ 13 0 - 1) σ = some 1) :
    ∃ (r : Int32) (σ' : fl_St), f_X3_slack (nI a) σ = some (r, σ') ∧ md_N σ' n fr to cp cs sp ∧
      ((r = -1000002 ∧ ¬ ∃ y, fl_Fs n fr to cp sp y) ∨ (r = -1000003 ∧ (∃ y, fl_Fs n fr to cp sp y) ∧ ¬ ∃ d, fl_PotU n fr to cp cs d) ∨
        ((∃ d, fl_PotU n fr to cp cs d) ∧ (∃ y, fl_Fs n fr to cp sp y) ∧ ((r = 0 ∧ ¬ ∃ d, fl_PotU n fr to cp (gt cs a (-1)) d) ∨ ((∃ d, fl_PotU n fr to cp (gt cs a (-1)) d) ∧ ∃ x, fl_Op n fr to cp cs sp x ∧ (∀ y, fl_Op n fr to cp cs sp y → y a ≤ x a) ∧ sl_I n fr to cp cs sp a (fl_cost n cs x) (x a) r.toInt)))) := by
  obtain ⟨hV, hsp, hsum, hsm⟩ := hA.H
  have hn := hA.1
  obtain ⟨r, σ1, a1, a2, a3⟩ := p_solve hV hsp hsum hsm hN
  unfold f_X3_slack
  rw [hI, fl_bs, if_neg (by decide), a1, fl_b2s]
  rcases a3 with ⟨rfl, a3⟩ | ⟨rfl, a3⟩ | ⟨rfl, a3, hS⟩
  · rw [if_neg (by decide)]
    exact ⟨_, σ1, rfl, a2, Or.inl ⟨rfl, a3⟩⟩
  · rw [if_neg (by decide)]
    exact ⟨_, σ1, rfl, a2, Or.inr (Or.inl ⟨rfl, a3⟩)⟩
  · obtain ⟨r2, σ2, b1, b2, b3⟩ := p_mostOf hV hsp a2 hS ha
    rw [if_pos (by decide), b1, fl_b2s, fl_rd_n (by omega) (by omega), fl_bs]
    have hc3 : (σ2 3 a).toInt = cs a := (b2.2.1 a ha).2.2.2
    rcases b3 with ⟨rfl, b3⟩ | ⟨b3, x, x1, x2, x3, x4⟩
    · have e : f_X3_slack_l55 (nI a) (σ1 13 2) (-1000004) (σ2 3 a) fl_N 0 40 σ2 = some (0, σ2) := by
        rw [show fl_N = 1999999 + 1 from rfl, f_X3_slack_l55, if_neg (by decide), if_pos rfl, if_pos rfl]
      rw [e, fl_b2s, fl_wr_n (by omega) (by omega), fl_bs]
      refine ⟨0, _, rfl, ?_, Or.inr (Or.inr ⟨a3, ⟨_, hS.1.1⟩, Or.inl ⟨rfl, b3⟩⟩)⟩
      have h := md_N.up (cs := cs) (z := cs a) (a := a) (by rw [fl_up_id]; exact b2) hc3
      rw [fl_up_id] at h
      exact h
    · obtain ⟨hop, -, -, htot, hc1, hc2⟩ := hS
      have h0 := (x1.1.1 a ha).1
      have hcx : fl_cost n cs x = fl_cost n cs (rv σ1 5) := by
        have h1 := x1.2 _ hop.1
        have h2 := hop.2 _ x1.1
        omega
      obtain ⟨w, σ3, z', e1, e2, e3, e4, e5, e6⟩ := p_sl55 hA ha (x3 := σ1 13 2) (x4 := r2) (x5 := σ2 3 a) (C := fl_cost n cs x) (m := x a) (by rw [hcx]; exact htot) x2 hc3 (by omega) (by omega) 40 fl_N σ2 (cs a) (by omega) (by unfold fl_N; omega) (by rw [fl_up_id]; exact b2)
      rw [show f_X3_slack_l55 (nI a) (σ1 13 2) r2 (σ2 3 a) fl_N 0 40 σ2 = some (w, σ3) from e1, fl_b2s, fl_wr_n (by omega) (by omega), fl_bs]
      refine ⟨w, _, rfl, ?_, Or.inr (Or.inr ⟨a3, ⟨_, hop.1⟩, Or.inr ⟨b3, x, x1, x4, e3, e4, ?_, fun k' q1 q2 => e6 k' q1 (by omega)⟩⟩)⟩
      · have h := e2.up hc3
        rw [fl_up_id] at h
        exact h
      · rcases e5 with e5 | e5
        · rw [e5]
          have e : ck_s cs a 0 = cs := by
            show fl_up cs a (cs a + -0) = cs
            rw [show cs a + -0 = cs a by omega, fl_up_id]
          refine ⟨by rw [e]; exact a3, x, by rw [e]; exact x1, ?_⟩
          rw [e]
          omega
        · exact e5
end AGV
