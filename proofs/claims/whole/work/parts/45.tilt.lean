/-! pure rows: least and most of the class -/
abbrev gt (cs : Nat → Int) (a : Nat) (t : Int) : Nat → Int := fl_up (fun b => 841 * cs b) a (841 * cs a + t)
theorem fl_cost_g {n : Nat} {c : Nat → Int} {a : Nat} (ha : a < n) (t : Int) (y : Nat → Int) : fl_cost n (fl_up c a (c a + t)) y = fl_cost n c y + t * y a := by
  have h1 : fl_cost n (fl_up c a (c a + t)) y = fl_S n (fl_up (fun b => c b * y b) a ((c a + t) * y a)) := fl_S_congr (fun b _ => by
    by_cases e : b = a
    · subst e; rw [fl_up_s, fl_up_s]
    · rw [fl_up_n _ _ e, fl_up_n _ _ e])
  rw [h1, fl_S_up ha, Int.add_mul]
  show fl_cost n c y + _ = _
  omega
theorem fl_cost_k {n : Nat} (c : Nat → Int) (k : Int) (y : Nat → Int) : fl_cost n (fun b => k * c b) y = k * fl_cost n c y := by
  unfold fl_cost
  rw [← fl_S_mul]
  exact fl_S_congr (fun b _ => Int.mul_assoc _ _ _)
theorem gt_cost {n : Nat} {cs : Nat → Int} {a : Nat} (ha : a < n) (t : Int) (y : Nat → Int) : fl_cost n (gt cs a t) y = 841 * fl_cost n cs y + t * y a := by
  have := fl_cost_g (c := fun b => 841 * cs b) ha t y
  rw [fl_cost_k] at this
  exact this
section TILT
variable {n : Nat} {fr to : Nat → Nat} {cp cs sp : Nat → Int}
theorem p_tilted (hV : fl_V n fr to cp cs sp) {σ : fl_St} (hN : cl_N σ n fr to cp cs sp) {a : Nat} (ha : a < n) {x2 : Int32} {t : Int} (hx : x2.toInt = t) (ht : t = 1 ∨ t = -1) :
    ∃ (b : Bool) (σ' : fl_St), f_X2_routeTilted (nI a) x2 σ = some (b2i b, σ') ∧ cl_N σ' n fr to cp cs sp ∧ cl_L σ' n fr to (lk_w (gt cs a t)) ∧ (b = false → ¬ ∃ d, fl_PotU n fr to cp (gt cs a t) d) ∧
      (b = true → (∃ d, fl_PotU n fr to cp (gt cs a t) d) ∧ ∃ ex0, rt_I n fr to cp (gt cs a t) sp ex0 (rv σ' 8) (rv σ' 9) ∧ rt_E n fr to (rv σ' 8) (rv σ' 9)) := by
  obtain ⟨σ1, a1, a2, a3, a4⟩ := p_lay hV (x1 := 841) (sc := 841) (by decide) (by decide) hN
  have hc := hV.2.2.1
  obtain ⟨σ2, b1, b2, b3⟩ := p_tilt (g := fun a => 841 * cs a) hV.1 a3 (fun a h => by have := hc a h; show -60000 ≤ 841 * cs a ∧ 841 * cs a ≤ 60000; omega) ha hx (by omega)
  have N2 := a4.mv (fun k hk => b2 k (by omega))
  have hg : ∀ b, b < n → -50461 ≤ gt cs a t b ∧ gt cs a t b ≤ 50461 := by
    intro b hb
    have h1 := hc b hb
    by_cases e : b = a
    · subst e
      show -50461 ≤ fl_up _ b _ b ∧ fl_up _ b _ b ≤ 50461
      rw [fl_up_s]; omega
    · show -50461 ≤ fl_up _ a _ b ∧ fl_up _ a _ b ≤ 50461
      rw [fl_up_n _ _ e]; omega
  obtain ⟨b, σ3, c1, c2, c3, c4⟩ := p_route hV hg N2 b3
  refine ⟨b, σ3, ?_, c2.N N2, c2.L b3, c3, fun h => ?_⟩
  · unfold f_X2_routeTilted
    rw [a1, fl_bs, b1, fl_bs, c1, fl_b2s]
    cases b <;> rfl
  · obtain ⟨h1, ex0, -, h2, h3⟩ := c4 h
    exact ⟨h1, ex0, h2, h3⟩
theorem rt_x {ex0 ρ ex g : Nat → Int} (hV : fl_V n fr to cp cs sp) (h : rt_I n fr to cp g sp ex0 ρ ex) : ∀ a, a < n → 0 ≤ xo ρ a ∧ xo ρ a ≤ 840 := by
  intro a ha
  obtain ⟨h1, h2, h3⟩ := h.1 a ha
  have hp := fl_pos_0 ex
  have := (hV.2.2.1 a ha).1
  refine ⟨h2, ?_⟩
  by_cases c : cp a = -1
  · have := h.2.2.2.2.1 a ha c
    show ρ (2 * a + 1) ≤ 840
    omega
  · unfold cU at h3
    rw [if_neg c] at h3
    show ρ (2 * a + 1) ≤ 840
    omega
theorem rt_bal {ex0 ρ ex g : Nat → Int} (hV : fl_V n fr to cp cs sp) (h : rt_I n fr to cp g sp ex0 ρ ex) (hE : rt_E n fr to ρ ex) (hf : ∃ y, fl_Fs n fr to cp sp y) : ∀ v, v < 8 → ex v = 0 :=
  Classical.byContradiction fun q => rt_none hV h hE q hf
theorem p_flowOf {σ : fl_St} (hn : n ≤ 20) {a : Nat} (ha : a < n) : f_X1_flowOf (nI a) σ = some (σ 8 (2 * a + 1)) := by
  unfold f_X1_flowOf
  rw [nI_21, fl_rd_n (by omega) (by omega), fl_bs]
def c_r (cs : Nat → Int) (fr to : Nat → Nat) (pt : Nat → Int) (a : Nat) : Int := cs a + pt (fr a) - pt (to a)
/-- all cheapest flows are alike beside the node numbers -/
theorem fl_slk_all (ha : fl_Ar 8 n fr to) {x y pt : Nat → Int} (hx : fl_Fs n fr to cp sp x) (hs : fl_Slk n fr to cp cs pt x) (hy : fl_Fs n fr to cp sp y) (hc : fl_cost n cs y ≤ fl_cost n cs x) : fl_Slk n fr to cp cs pt y := by
  have e1 := fl_div_pot ha.w pt x
  have e2 := fl_div_pot ha.w pt y
  have e3 : fl_S 8 (fun v => pt v * fl_div n fr to x v) = fl_S 8 (fun v => pt v * fl_div n fr to y v) := fl_S_congr (fun v hv => by rw [hx.2 v hv, hy.2 v hv])
  have hnn : ∀ a, a < n → 0 ≤ (c_r cs fr to pt a) * (y a - x a) := by
    intro a h
    obtain ⟨h1, h2⟩ := hs a h
    obtain ⟨h3, h4⟩ := hy.1 a h
    unfold c_r
    rcases Int.lt_trichotomy (cs a + pt (fr a) - pt (to a)) 0 with k | k | k
    · obtain ⟨h5, h6⟩ := h1 k
      exact Int.mul_nonneg_of_nonpos_of_nonpos (by omega) (by omega)
    · rw [k]; simp
    · rw [h2 k]
      exact Int.mul_nonneg (by omega) (by omega)
  have hsum : fl_S n (fun a => (c_r cs fr to pt a) * (y a - x a)) ≤ 0 := by
    have h1 : fl_S n (fun a => (c_r cs fr to pt a) * (y a - x a)) = (fl_cost n cs y + fl_S n (fun a => y a * (pt (fr a) - pt (to a)))) - (fl_cost n cs x + fl_S n (fun a => x a * (pt (fr a) - pt (to a)))) := by
      unfold fl_cost
      rw [← fl_S_add, ← fl_S_add, ← fl_S_sub]
      refine fl_S_congr (fun a _ => ?_)
      unfold c_r
      grind
    omega
  intro a h
  have hz := fl_S_z hnn hsum h
  have hz : (c_r cs fr to pt a) * (y a - x a) = 0 := hz
  unfold c_r at hz
  obtain ⟨h1, h2⟩ := hs a h
  refine ⟨fun q => ?_, fun q => ?_⟩
  · obtain ⟨h3, h4⟩ := h1 q
    rcases Int.mul_eq_zero.mp hz with k | k
    · omega
    · exact ⟨h3, by omega⟩
  · have h3 := h2 q
    rcases Int.mul_eq_zero.mp hz with k | k
    · omega
    · omega
theorem p_least (hV : fl_V n fr to cp cs sp) {σ : fl_St} (hN : cl_N σ n fr to cp cs sp) {a : Nat} (ha : a < n) (hA : f_X2_isArc (nI a) σ = some 1) :
    ∃ (r : Int32) (σ' : fl_St), f_X2_least (nI a) σ = some (r, σ') ∧ cl_N σ' n fr to cp cs sp ∧
      ((r = -1000002 ∧ ¬ ∃ y, fl_Fs n fr to cp sp y) ∨ (r = -1000003 ∧ (∃ y, fl_Fs n fr to cp sp y) ∧ ¬ ∃ d, fl_PotU n fr to cp cs d) ∨
        ((∃ d, fl_PotU n fr to cp cs d) ∧ ∃ x, fl_Op n fr to cp cs sp x ∧ r.toInt = x a ∧ ∀ y, fl_Op n fr to cp cs sp y → x a ≤ y a)) := by
  obtain ⟨r, σ1, a1, a2, a3⟩ := p_state hV hN
  unfold f_X2_least
  rw [hA, fl_bs, if_neg (by decide), a1, fl_b2s]
  rcases a3 with ⟨rfl, a3⟩ | ⟨rfl, a3⟩ | ⟨rfl, a3, a4, ⟨ex0, a5⟩, a6⟩
  · exact ⟨_, σ1, rfl, a2, Or.inl ⟨rfl, a3⟩⟩
  · exact ⟨_, σ1, rfl, a2, Or.inr (Or.inl ⟨rfl, a3⟩)⟩
  · rw [if_pos rfl]
    have hop := rt_flow hV a5 a6
    have hx := rt_x hV a5 a ha
    obtain ⟨b, σ2, b1, b2, b3, b4, b5⟩ := p_tilted hV a2 ha (x2 := 1) (t := 1) (by decide) (Or.inl rfl)
    rw [b1, fl_b2s, p_flowOf hV.1 ha, fl_bs]
    cases b with
    | false =>
      exfalso
      obtain ⟨d, hd⟩ := a3
      refine b4 rfl ⟨fun v => 841 * d v, fun b hb hc => ?_⟩
      have := hd b hb hc
      by_cases e : b = a
      · subst e
        show 841 * d (to b) ≤ 841 * d (fr b) + fl_up _ b _ b
        rw [fl_up_s]; omega
      · show 841 * d (to b) ≤ 841 * d (fr b) + fl_up _ a _ b
        rw [fl_up_n _ _ e]; omega
    | true =>
      obtain ⟨hP, ex1, hI, hE⟩ := b5 rfl
      have hx' := rt_x hV hI a ha
      have ho := rt_flow hV hI (rt_bal hV hI hE ⟨_, hop.1⟩)
      have k1 := ho.2 _ hop.1
      rw [gt_cost ha, gt_cost ha] at k1
      have k2 := hop.2 _ ho.1
      refine ⟨_, σ2, rfl, b2, Or.inr (Or.inr ⟨a3, xo (rv σ2 8), ⟨ho.1, fun y hy => ?_⟩, rfl, fun y hy => ?_⟩)⟩
      · have := hop.2 y hy
        omega
      · have k3 := ho.2 _ hy.1
        rw [gt_cost ha, gt_cost ha] at k3
        have k4 := hy.2 _ hop.1
        have k5 := hop.2 _ hy.1
        omega
/-- what most leaves, if the answer is a number -/
def mo_I (σ : fl_St) (n : Nat) (fr to : Nat → Nat) (cp cs sp : Nat → Int) (a : Nat) : Prop :=
  fl_Op n fr to cp cs sp (xo (rv σ 8)) ∧ (∀ y, fl_Op n fr to cp cs sp y → y a ≤ xo (rv σ 8) a) ∧ rm_I n cp (rv σ 8) ∧ (∀ b, b < n → xo (rv σ 8) b ≤ 840) ∧ ∃ pt, fl_Slk n fr to cp cs pt (xo (rv σ 8))
theorem p_most (hV : fl_V n fr to cp cs sp) {σ : fl_St} (hN : cl_N σ n fr to cp cs sp) {a : Nat} (ha : a < n) (hA : f_X2_isArc (nI a) σ = some 1) :
    ∃ (r : Int32) (σ' : fl_St), f_X2_most (nI a) σ = some (r, σ') ∧ cl_N σ' n fr to cp cs sp ∧
      ((r = -1000002 ∧ ¬ ∃ y, fl_Fs n fr to cp sp y) ∨ (r = -1000003 ∧ (∃ y, fl_Fs n fr to cp sp y) ∧ ¬ ∃ d, fl_PotU n fr to cp cs d) ∨
        ((∃ d, fl_PotU n fr to cp cs d) ∧ ((r = -1000004 ∧ (∃ y, fl_Fs n fr to cp sp y) ∧ ¬ ∃ d, fl_PotU n fr to cp (gt cs a (-1)) d) ∨ ((∃ d, fl_PotU n fr to cp (gt cs a (-1)) d) ∧ r = σ' 8 (2 * a + 1) ∧ 0 ≤ r.toInt ∧ mo_I σ' n fr to cp cs sp a)))) := by
  obtain ⟨r, σ1, a1, a2, a3⟩ := p_state hV hN
  unfold f_X2_most
  rw [hA, fl_bs, if_neg (by decide), a1, fl_b2s]
  rcases a3 with ⟨rfl, a3⟩ | ⟨rfl, a3⟩ | ⟨rfl, a3, a4, ⟨ex0, a5⟩, a6⟩
  · exact ⟨_, σ1, rfl, a2, Or.inl ⟨rfl, a3⟩⟩
  · exact ⟨_, σ1, rfl, a2, Or.inr (Or.inl ⟨rfl, a3⟩)⟩
  · rw [if_pos rfl]
    have hop := rt_flow hV a5 a6
    have hx := rt_x hV a5 a ha
    obtain ⟨pt, hpt⟩ := rt_slk a5
    obtain ⟨b, σ2, b1, b2, b3, b4, b5⟩ := p_tilted hV a2 ha (x2 := -1) (t := -1) (by decide) (Or.inr rfl)
    rw [b1, fl_b2s]
    cases b with
    | false =>
      rw [if_pos (by decide), fl_bs]
      exact ⟨_, σ2, rfl, b2, Or.inr (Or.inr ⟨a3, Or.inl ⟨rfl, ⟨_, hop.1⟩, b4 rfl⟩⟩)⟩
    | true =>
      obtain ⟨hP, ex1, hI, hE⟩ := b5 rfl
      have hx' := rt_x hV hI a ha
      have ho := rt_flow hV hI (rt_bal hV hI hE ⟨_, hop.1⟩)
      have k1 := ho.2 _ hop.1
      rw [gt_cost ha, gt_cost ha] at k1
      have k2 := hop.2 _ ho.1
      have hopt : fl_Op n fr to cp cs sp (xo (rv σ2 8)) := ⟨ho.1, fun y hy => by
        have := hop.2 y hy
        omega⟩
      rw [if_neg (by decide), p_flowOf hV.1 ha, fl_bs, fl_bs]
      refine ⟨_, σ2, rfl, b2, Or.inr (Or.inr ⟨a3, Or.inr ⟨hP, rfl, hx'.1, hopt, fun y hy => ?_, hI.1, fun b hb => (rt_x hV hI b hb).2, pt, fl_slk_all hV.2.1 hop.1 hpt ho.1 (hopt.2 _ hop.1)⟩⟩)⟩
      have k3 := ho.2 _ hy.1
      rw [gt_cost ha, gt_cost ha] at k3
      have k4 := hy.2 _ hop.1
      have k5 := hop.2 _ hy.1
      omega
end TILT
