/-! pure rows: the reference: fill and solve -/
section SOLVE
variable {n : Nat} {fr to : Nat → Nat} {cp cs sp : Nat → Int}
theorem p_fill72 {M : Nat} (hM : M ≤ 36) : ∀ (F i : Nat) (σ : fl_St), i ≤ M → M - i < F → σ 13 1 = nI M → (∀ k, k < i → σ 5 k = 0 ∧ σ 10 k = 1) → ∃ σ', f_X3_fill_l72 F (nI i) σ = some σ' ∧ (∀ k, k ≠ 5 → k ≠ 10 → σ' k = σ k) ∧ ∀ k, k < M → σ' 5 k = 0 ∧ σ' 10 k = 1 := by
  intro F
  induction F with
  | zero => intro i σ h1 h2; omega
  | succ F ih =>
    intro i σ h1 h2 h13 hz
    by_cases c : i = M
    · subst c
      exact ⟨σ, by rw [f_X3_fill_l72, h13, if_pos (nI_le (Nat.le_refl _) (by omega))], fun _ _ _ => rfl, hz⟩
    · rw [f_X3_fill_l72, h13, if_neg (nI_ge (by omega) (by omega)), fl_wr_n (by omega) (by omega), fl_bs, fl_wr_n (by omega) (by omega), fl_bs, nI_1]
      obtain ⟨σ', e1, e2, e3⟩ := ih (i + 1) (st (st σ 5 i 0) 10 i 1) (by omega) (by omega) (by rw [st_k _ _ _ (by decide), st_k _ _ _ (by decide)]; exact h13) (fun k hk => by
        rw [st_k (k' := 5) _ _ _ (by decide), st_v, st_v, st_k (k' := 10) _ _ _ (by decide)]
        by_cases e : k = i
        · rw [if_pos e, if_pos e]; exact ⟨rfl, rfl⟩
        · rw [if_neg e, if_neg e]; exact hz k (by omega))
      exact ⟨σ', e1, fun k h1 h2 => by rw [e2 k h1 h2, st_k _ _ _ h2, st_k _ _ _ h1], e3⟩
/-- what fill leaves -/
def fi_I (n : Nat) (fr to : Nat → Nat) (cp sp : Nat → Int) (r : Int) (f : Nat → Int) : Prop :=
  ∃ ex s : Nat → Int, (∀ k, k < n → 0 ≤ f k ∧ f k ≤ cM cp k ∧ f k ≤ 248) ∧ (∀ v, v < 8 → ex v = sp v - fl_div n fr to f v) ∧ r = fl_pos sp - fl_pos ex ∧ (∀ v, s v = 0 ∨ s v = 1) ∧
    (∀ v, v < 8 → 0 < ex v → s v = 1) ∧ (∀ v, v < 8 → ex v < 0 → s v = 0) ∧ (∀ a, a < n → s (fr a) = 1 → s (to a) = 0 → cp a ≠ -1 ∧ f a = cp a) ∧ ∀ a, a < n → s (fr a) = 0 → s (to a) = 1 → f a = 0
theorem fl_div_z (n : Nat) (fr to : Nat → Nat) (v : Nat) {x : Nat → Int} (h : ∀ a, a < n → x a = 0) : fl_div n fr to x v = 0 := by
  unfold fl_div
  rw [fl_S_congr (g := fun _ => 0) (fun a ha => by rw [h a ha]; simp), fl_S_zero]
theorem p_fillM (hV : md_V n fr to cp cs) (hsp : ∀ v, v < 8 → -31 ≤ sp v ∧ sp v ≤ 31) {σ : fl_St} (hN : md_N σ n fr to cp cs sp) :
    ∃ (r : Int32) (σ' : fl_St), f_X3_fill σ = some (r, σ') ∧ md_N σ' n fr to cp cs sp ∧ fi_I n fr to cp sp r.toInt (rv σ' 5) := by
  have hn := hV.1
  have hcm : ∀ a, a < n → 0 ≤ cM cp a ∧ cM cp a ≤ 1000000 := fun a ha => by have := (hV.2.2 a ha).1; unfold cM; split <;> omega
  have hI0 : le_I n fr to cp sp 0 0 (fun _ => 0) fr to (cM cp) (st σ 13 1 (σ 13 0)) := by
    refine ⟨by rw [st_s, hN.1]; rfl, Nat.le_refl _, fun k hk => ?_, fun k _ => ⟨rfl, rfl, rfl⟩, fun k hk => ?_, fun v hv => by omega, fun f v hv => ?_, fun f => ?_⟩
    · obtain ⟨q0, q1, q2, -⟩ := hN.2.1 k (by omega)
      rw [st_k _ _ _ (by decide), st_k _ _ _ (by decide), st_k _ _ _ (by decide)]
      exact ⟨q0, q1, q2, hcm k (by omega)⟩
    · have := hV.2.1 k (by omega)
      exact ⟨by omega, by omega, this.2.2⟩
    · rw [if_neg (by omega)]
      show fl_div (n + 0) fr to f v = _
      rw [Nat.add_zero]
      omega
    · show fl_div (n + 0) fr to f 8 = 0
      rw [Nat.add_zero]
      unfold fl_div
      rw [fl_S_congr (g := fun _ => 0) (fun a ha => ?_), fl_S_zero]
      obtain ⟨h1, h2, -⟩ := hV.2.1 a ha
      rw [if_neg (by omega), if_neg (by omega)]
      rfl
  obtain ⟨c, ix, fr2, to2, C2, σ1, a1, a2, i1, i2, i3, i4, i5, i6, i7, i8⟩ := p_fill10 hn hsp fl_N 0 0 (fun _ => 0) fr to (cM cp) (st σ 13 1 (σ 13 0)) (by omega) (by unfold fl_N; omega) (fun v hv => by rw [rv_sk _ _ _ (by decide)]; exact hN.2.2 v hv) hI0
  have N0 : md_N (st σ 13 1 (σ 13 0)) n fr to cp cs sp := hN.mv (fun k hk => st_k _ _ _ (by omega)) (st_j _ _ _ (by decide))
  have N1 := a2.N N0
  obtain ⟨σ2, b1, b2, b3⟩ := p_fill72 (M := n + c) (by omega) fl_N 0 σ1 (by omega) (by unfold fl_N; omega) i1 (fun k hk => by omega)
  have N2 : md_N σ2 n fr to cp cs sp := N1.mv (fun k hk => b2 k (by omega) (by omega)) (by rw [b2 13 (by decide) (by decide)])
  have z : (0 : Int32).toInt = 0 := by decide
  have f0 : ∀ k, k < n + c → rv σ2 5 k = 0 := fun k hk => by
    show (σ2 5 k).toInt = 0
    rw [(b3 k hk).1, z]
  have hX : ex_N σ2 (n + c) fr2 to2 C2 (fun _ => True) := by
    refine ⟨by rw [b2 13 (by decide) (by decide)]; exact i1, by omega, i5, fun k hk => ?_⟩
    rw [b2 0 (by decide) (by decide), b2 1 (by decide) (by decide), b2 2 (by decide) (by decide)]
    obtain ⟨k1, k2, k3, k4, k5⟩ := i3 k hk
    exact ⟨k1, k2, k3, Or.inr ⟨(b3 k hk).2, trivial⟩, k4, k5⟩
  obtain ⟨r, σ3, c1, c2, c3, c4, ⟨p1, p2, p3, p4⟩, c5⟩ := p_pushAll (fi := 5) (src := 8) (e := 9) (Or.inl rfl) (by decide) (by decide) (by decide) (x4 := 1000000) (mo := 1000000) (by decide) (by decide) (by decide) hX (fun k hk => by rw [f0 k hk]; exact ⟨by decide, (i3 k hk).2.2.2.1⟩)
  have hd0 : ∀ q, fl_div (n + c) fr2 to2 (rv σ2 5) q = 0 := fun q => fl_div_z _ _ _ _ f0
  have d8 : r.toInt = fl_S 8 (fun v => if 0 < sp v then rv σ3 5 (ix v) else 0) := by
    have q := p2 8
    rw [hd0, i8 (rv σ3 5), if_pos rfl, if_neg (by decide)] at q
    omega
  have dv : ∀ v, v < 8 → fl_div n fr to (rv σ3 5) v = if 0 < sp v then rv σ3 5 (ix v) else if sp v < 0 then -rv σ3 5 (ix v) else 0 := by
    intro v hv
    have q := p2 v
    rw [hd0, i7 _ v hv, if_pos hv, if_neg (c := 8 = v) (by omega), if_neg (c := 9 = v) (by omega)] at q
    split
    · rename_i h
      rw [if_pos h] at q
      omega
    · rename_i h
      rw [if_neg h] at q
      split
      · rename_i h2
        rw [if_pos h2] at q
        omega
      · rename_i h2
        rw [if_neg h2] at q
        omega
  have hfx : ∀ v, v < 8 → (0 < sp v → 0 ≤ rv σ3 5 (ix v) ∧ rv σ3 5 (ix v) ≤ sp v) ∧ (sp v < 0 → 0 ≤ rv σ3 5 (ix v) ∧ rv σ3 5 (ix v) ≤ -sp v) := by
    intro v hv
    obtain ⟨j1, j2⟩ := i6 v hv
    refine ⟨fun q => ?_, fun q => ?_⟩
    · obtain ⟨k1, k2, k3, -⟩ := j1 q
      have := p1 _ k2
      omega
    · obtain ⟨k1, k2, k3, -⟩ := j2 q
      have := p1 _ k2
      omega
  have hr : r.toInt ≤ 248 := by
    have h1 : fl_S 8 (fun v => if 0 < sp v then rv σ3 5 (ix v) else 0) ≤ fl_S 8 (fun _ => 31) := fl_S_le (fun v hv => by
      have h2 := (hfx v hv).1
      have h3 := hsp v hv
      split
      · rename_i h
        have := h2 h
        omega
      · omega)
    rw [fl_S_cst] at h1
    omega
  have N3 : md_N σ3 n fr to cp cs sp := N2.mv (fun k hk => c2 k (by omega) (by omega) (by omega) (by omega)) (by rw [c2 13 (by decide) (by decide) (by decide) (by decide)])
  refine ⟨r, σ3, ?_, N3, ?_⟩
  · unfold f_X3_fill
    rw [fl_bs, show f_X3_fill_l10 fl_N 0 (st σ 13 1 (σ 13 0)) = some σ1 from a1, fl_bs, show f_X3_fill_l72 fl_N 0 σ1 = some σ2 from b1, fl_bs, show f_X3_pushAll 5 8 9 1000000 σ2 = some (r, σ3) from c1, fl_b2s]
  · rcases c5 with c5 | ⟨S, s1, s2, s3⟩
    · omega
    · obtain ⟨s, hs⟩ := fl_ind S
      have h01 : ∀ v, s v = 0 ∨ s v = 1 := fun v => by
        by_cases c : S v
        · exact Or.inr ((hs v).1 c)
        · exact Or.inl ((hs v).2 c)
      have hS1 : ∀ v, s v = 1 → S v := fun v q => Classical.byContradiction fun c => by
        have := (hs v).2 c
        omega
      have hS0 : ∀ v, s v = 0 → ¬ S v := fun v q c => by
        have := (hs v).1 c
        omega
      have hb : ∀ k, k < n → 0 ≤ rv σ3 5 k ∧ rv σ3 5 k ≤ cM cp k ∧ rv σ3 5 k ≤ 248 := fun k hk => by
        have q1 := p1 k (by omega)
        have q2 := p3 k (by omega)
        rw [f0 k (by omega)] at q2
        rw [(i4 k hk).2.2] at q1
        exact ⟨q1.1, q1.2, by omega⟩
      refine ⟨fun v => sp v - fl_div n fr to (rv σ3 5) v, s, hb, fun _ _ => rfl, ?_, h01, fun v hv q => ?_, fun v hv q => ?_, fun a h q1 q2 => ?_, fun a h q1 q2 => ?_⟩
      · rw [d8]
        unfold fl_pos
        rw [← fl_S_sub]
        refine fl_S_congr (fun v hv => ?_)
        have h1 := hfx v hv
        have h2 := dv v hv
        show (if 0 < sp v then rv σ3 5 (ix v) else 0) = (if 0 < sp v then sp v else 0) - (if 0 < sp v - fl_div n fr to (rv σ3 5) v then sp v - fl_div n fr to (rv σ3 5) v else 0)
        rw [h2]
        by_cases q : 0 < sp v
        · have := h1.1 q
          rw [if_pos q, if_pos q, if_pos q]
          split <;> omega
        · rw [if_neg q, if_neg q, if_neg q]
          by_cases q3 : sp v < 0
          · have := h1.2 q3
            rw [if_pos q3]
            split <;> omega
          · rw [if_neg q3]
            split <;> omega
      · have q : 0 < sp v - fl_div n fr to (rv σ3 5) v := q
        rw [dv v hv] at q
        have h1 := hfx v hv
        by_cases q3 : 0 < sp v
        · rw [if_pos q3] at q
          obtain ⟨k1, k2, k3, k4, k5⟩ := (i6 v hv).1 q3
          have := s3 (2 * ix v) (by omega) ⟨trivial, by rw [rr_0]; omega⟩
          rw [lk_t0, lk_h0, k4, k5] at this
          exact (hs v).1 (this s1)
        · rw [if_neg q3] at q
          by_cases q4 : sp v < 0
          · have := h1.2 q4
            rw [if_pos q4] at q
            omega
          · rw [if_neg q4] at q
            omega
      · have q : sp v - fl_div n fr to (rv σ3 5) v < 0 := q
        rw [dv v hv] at q
        have h1 := hfx v hv
        by_cases q3 : 0 < sp v
        · have := h1.1 q3
          rw [if_pos q3] at q
          omega
        · rw [if_neg q3] at q
          by_cases q4 : sp v < 0
          · rw [if_pos q4] at q
            obtain ⟨k1, k2, k3, k4, k5⟩ := (i6 v hv).2 q4
            have := s3 (2 * ix v) (by omega) ⟨trivial, by rw [rr_0]; omega⟩
            rw [lk_t0, lk_h0, k4, k5] at this
            exact (hs v).2 (fun h => s2 (this h))
          · rw [if_neg q4] at q
            omega
      · obtain ⟨e1, e2, e3⟩ := i4 a h
        have hno : ¬ 0 < cM cp a - rv σ3 5 a := fun o => by
          have := s3 (2 * a) (by omega) ⟨trivial, by rw [rr_0, e3]; exact o⟩
          rw [lk_t0, lk_h0, e1, e2] at this
          exact hS0 _ q2 (this (hS1 _ q1))
        have h1 := hb a h
        by_cases c : cp a = -1
        · unfold cM at hno
          rw [if_pos c] at hno
          omega
        · unfold cM at hno h1
          rw [if_neg c] at hno h1
          exact ⟨c, by omega⟩
      · obtain ⟨e1, e2, e3⟩ := i4 a h
        have h1 := hb a h
        have hno : ¬ 0 < rv σ3 5 a := fun o => by
          have := s3 (2 * a + 1) (by omega) ⟨trivial, by rw [rr_1]; exact o⟩
          rw [lk_t1, lk_h1, e1, e2] at this
          exact hS0 _ q1 (this (hS1 _ q2))
        omega
end SOLVE
