/-! pure rows: the reference: pushAll, whole -/
section PA
variable {M : Nat} {fr to : Nat → Nat} {C : Nat → Int} {al : Nat → Prop} {fi src e : Nat}
def pa_F (fi : Nat) (σ σ' : fl_St) : Prop := ∀ k, k ≠ fi → k ≠ 7 → k ≠ 11 → k ≠ 12 → σ' k = σ k
theorem pa_F.X {σ σ' : fl_St} (hfi : fi = 5 ∨ fi = 6) (h : pa_F fi σ σ') (hX : ex_N σ M fr to C al) : ex_N σ' M fr to C al := hX.mv (h 0 (by omega) (by omega) (by omega) (by omega)) (h 1 (by omega) (by omega) (by omega) (by omega)) (h 2 (by omega) (by omega) (by omega) (by omega)) (h 10 (by omega) (by omega) (by omega) (by omega)) (h 13 (by omega) (by omega) (by omega) (by omega))
/-- what pushAll leaves of the flow f after r units -/
def pa_I (M : Nat) (fr to : Nat → Nat) (C f : Nat → Int) (al : Nat → Prop) (src e : Nat) (r : Int) (f' : Nat → Int) : Prop :=
  (∀ k, k < M → 0 ≤ f' k ∧ f' k ≤ C k) ∧ (∀ q, fl_div M fr to f' q = fl_div M fr to f q + ((if src = q then r else 0) - (if e = q then r else 0))) ∧ (∀ k, k < M → f' k ≤ f k + r) ∧ ∀ k, k < M → ¬ al k → f' k = f k
theorem p_pa_in (hfi : fi = 5 ∨ fi = 6) (hs : src < 10) (he : e < 10) (hse : src ≠ e) {x4 : Int32} {mo : Int} (hx4 : x4.toInt = mo) (hmo : mo ≤ 1000000) :
    ∀ (F : Nat) (x5 : Int32) (σ : fl_St), 0 ≤ x5.toInt → x5.toInt ≤ mo → mo - x5.toInt < F → ex_N σ M fr to C al → (∀ k, k < M → 0 ≤ rv σ fi k ∧ rv σ fi k ≤ C k) →
      ∃ (r : Int32) (σ' : fl_St), f_X3_pushAll_l3 fi (nI src) (nI e) x4 F x5 σ = some (r, σ') ∧ pa_F fi σ σ' ∧ x5.toInt ≤ r.toInt ∧ r.toInt ≤ mo ∧ pa_I M fr to C (rv σ fi) al src e (r.toInt - x5.toInt) (rv σ' fi) ∧
        (r.toInt = mo ∨ ∃ S : Nat → Prop, S src ∧ ¬ S e ∧ ∀ j, j < 2 * M → o2 C (rv σ' fi) al j → S (lk_tl fr to j) → S (lk_hd fr to j)) := by
  intro F
  induction F with
  | zero => intro x5 σ h1 h2 h3; omega
  | succ F ih =>
    intro x5 σ h1 h2 h3 hX hb
    rw [f_X3_pushAll_l3]
    by_cases c : mo ≤ x5.toInt
    · rw [if_pos (by rw [i_le, hx4]; exact c)]
      refine ⟨x5, σ, rfl, fun _ _ _ _ _ => rfl, Int.le_refl _, h2, ⟨hb, fun q => ?_, fun k _ => by omega, fun _ _ _ => rfl⟩, Or.inl (by omega)⟩
      rw [show x5.toInt - x5.toInt = 0 by omega]
      split <;> split <;> omega
    · rw [if_neg (by rw [i_le, hx4]; exact c)]
      obtain ⟨b, ps, mn, σ1, a1, a2, a3, a4, a5⟩ := p_isReached hfi hX rfl hb hs he
      rw [a1, fl_b2s]
      have hX1 := a2.X hX
      have ef1 : rv σ1 fi = rv σ fi := rv_k (a2 fi (by omega) (by omega) (by omega))
      cases b with
      | false =>
        rw [if_pos (by decide)]
        refine ⟨x5, σ1, rfl, fun k h1 h2 h3 h4 => a2 k h2 h3 h4, Int.le_refl _, h2, ⟨by rw [ef1]; exact hb, fun q => ?_, fun k _ => by rw [ef1]; omega, fun _ _ _ => by rw [ef1]⟩, Or.inr ⟨fun q => σ1 7 q = 1, a3.2.2.2.2.2.1, fun q => ?_, ?_⟩⟩
        · rw [ef1, show x5.toInt - x5.toInt = 0 by omega]
          split <;> split <;> omega
        · have := a5.mpr q
          cases this
        · intro j hj ho hS
          rw [ef1] at ho
          exact a4 j hj ho hS
      | true =>
        rw [if_neg (by decide)]
        have he7 := a5.mp rfl
        obtain ⟨K, k1, k2, k3, k4⟩ := wa_ex hX.2.2.1 a3 (ps e + 1) e (by omega) he he7
        have hb1 : ∀ k, k < M → 0 ≤ rv σ1 fi k ∧ rv σ1 fi k ≤ C k := by rw [ef1]; exact hb
        have hW : ∀ i, i < K → itf (pr fr to σ1) i e ≠ src ∧ wa_A M fr to C (rv σ1 fi) al σ1 (itf (pr fr to σ1) i e) := by rw [ef1]; exact k3
        have hd : ∀ i j, i < j → j < K → itf (pr fr to σ1) i e ≠ itf (pr fr to σ1) j e := fun i j hij hj q => by
          have := k4 i j hij (by omega)
          rw [q] at this
          omega
        have hdif : (x4 - x5).toInt = mo - x5.toInt := by rw [i_sub (by omega) (by omega), hx4]
        have hK10 : ps e < 10 := by
          rcases a3.2.2.1 e he with q | ⟨-, q, -⟩
          · rw [q] at he7; exact absurd he7 (by decide)
          · have := a3.2.1; omega
        obtain ⟨g, g1, g2, g3, g4⟩ := p_pa30 hfi hX1 rfl hb1 hs k2 hW (nI e) x4 x5 fl_N 0 (x4 - x5) (by omega) (by unfold fl_N; omega) (by rw [hdif]; omega)
        rw [hdif] at g3
        rw [show f_X3_pushAll_l30 fi (nI src) (nI e) x4 x5 σ1 fl_N (x4 - x5) (nI e) = some g from g1, fl_bs]
        have hG0 : pg_G M K fr to C (rv σ1 fi) al σ1 e g.toInt 0 (rv σ1 fi) := by
          refine ⟨hb1, fun _ _ _ => Int.le_refl _, fun q => ?_, fun k _ => by omega, fun _ _ _ => rfl⟩
          show _ = _ + ((if e = q then g.toInt else 0) - (if e = q then g.toInt else 0))
          omega
        obtain ⟨σ2, z1, z2, b2, r2, dv, ub, hal⟩ := p_pa147 hfi hX1 hs k2 hW hd ⟨by omega, by omega⟩ (fun s hs => g4 s (by omega) hs) (nI e) x4 x5 fl_N 0 σ1 (by omega) (by unfold fl_N; omega) (fun _ _ => rfl) hG0
        rw [show f_X3_pushAll_l147 fi (nI src) (nI e) x4 x5 g fl_N (nI e) σ1 = some σ2 from z1, fl_bs]
        rw [k2] at dv
        have hF2 : pa_F fi σ σ2 := fun k h1 h2 h3 h4 => by rw [z2 k h1, a2 k h2 h3 h4]
        have hsum : (x5 + g).toInt = x5.toInt + g.toInt := i_add (by omega) (by omega)
        obtain ⟨r, σ3, y1, y2, y3, y4, ⟨p1, p2, p3, p4⟩, y5⟩ := ih (x5 + g) σ2 (by omega) (by omega) (by omega) (hF2.X hfi hX) b2
        rw [hsum] at y3 p2 p3
        refine ⟨r, σ3, y1, fun k h1 h2 h3 h4 => (y2 k h1 h2 h3 h4).trans (hF2 k h1 h2 h3 h4), by omega, y4, ⟨p1, fun q => ?_, fun k hk => ?_, fun k hk hna => ?_⟩, y5⟩
        · rw [p2 q, dv q, ef1]
          split <;> split <;> omega
        · have q1 := p3 k hk
          have q2 := ub k hk
          rw [ef1] at q2
          omega
        · rw [p4 k hk hna, hal k hk hna, ef1]
theorem p_pushAll (hfi : fi = 5 ∨ fi = 6) (hs : src < 10) (he : e < 10) (hse : src ≠ e) {x4 : Int32} {mo : Int} (hx4 : x4.toInt = mo) (h0 : 0 ≤ mo) (hmo : mo ≤ 1000000) {σ : fl_St} (hX : ex_N σ M fr to C al) (hb : ∀ k, k < M → 0 ≤ rv σ fi k ∧ rv σ fi k ≤ C k) :
    ∃ (r : Int32) (σ' : fl_St), f_X3_pushAll fi (nI src) (nI e) x4 σ = some (r, σ') ∧ pa_F fi σ σ' ∧ 0 ≤ r.toInt ∧ r.toInt ≤ mo ∧ pa_I M fr to C (rv σ fi) al src e r.toInt (rv σ' fi) ∧
      (r.toInt = mo ∨ ∃ S : Nat → Prop, S src ∧ ¬ S e ∧ ∀ j, j < 2 * M → o2 C (rv σ' fi) al j → S (lk_tl fr to j) → S (lk_hd fr to j)) := by
  have z : (0 : Int32).toInt = 0 := by decide
  obtain ⟨r, σ', a1, a2, a3, a4, a5, a6⟩ := p_pa_in hfi hs he hse hx4 hmo fl_N 0 σ (by rw [z]; omega) (by rw [z]; omega) (by rw [z]; unfold fl_N; omega) hX hb
  rw [z] at a3 a5
  rw [show r.toInt - 0 = r.toInt by omega] at a5
  refine ⟨r, σ', ?_, a2, a3, a4, a5, a6⟩
  unfold f_X3_pushAll
  rw [a1, fl_b2s]
end PA
