/-! pure rows: flows, cheapest ones, and the class's state and cost -/
def fl_Fs (n : Nat) (fr to : Nat → Nat) (cp sp y : Nat → Int) : Prop := fl_Bd n cp y ∧ ∀ v, v < 8 → fl_div n fr to y v = sp v
def fl_Op (n : Nat) (fr to : Nat → Nat) (cp cs sp x : Nat → Int) : Prop := fl_Fs n fr to cp sp x ∧ ∀ y, fl_Fs n fr to cp sp y → fl_cost n cs x ≤ fl_cost n cs y
theorem fl_Ar.w {N n : Nat} {fr to : Nat → Nat} (h : fl_Ar N n fr to) : ∀ a, a < n → fr a < N ∧ to a < N := fun a ha => ⟨(h a ha).1, (h a ha).2.1⟩
/-- the sign of a set -/
theorem fl_ind (S : Nat → Prop) : ∃ s : Nat → Int, ∀ v, (S v → s v = 1) ∧ (¬ S v → s v = 0) :=
  ⟨fun v => @ite _ (S v) (Classical.propDecidable _) 1 0, fun v => ⟨fun h => if_pos h, fun h => if_neg h⟩⟩
section MATH
variable {n : Nat} {fr to : Nat → Nat} {cp cs sp g : Nat → Int}
theorem fl_opt (ha : fl_Ar 8 n fr to) {x pt : Nat → Int} (hx : fl_Fs n fr to cp sp x) (hs : fl_Slk n fr to cp cs pt x) : fl_Op n fr to cp cs sp x := by
  refine ⟨hx, fun y hy => ?_⟩
  have h := fl_weak (cap := cp) ha.w hy.1 hs
  have e : fl_S 8 (fun v => pt v * fl_div n fr to x v) = fl_S 8 (fun v => pt v * fl_div n fr to y v) := fl_S_congr (fun v hv => by rw [hx.2 v hv, hy.2 v hv])
  omega
theorem fl_cost_0 (x : Nat → Int) : fl_cost n (fun _ => 0) x = 0 := by
  unfold fl_cost
  rw [fl_S_congr (g := fun _ => 0) (fun a _ => by simp), fl_S_zero]
/-- a set whose leaving arcs are full and whose entering ones are empty: no other choice sends more out of it -/
theorem fl_cut (ha : fl_Ar 8 n fr to) {x y s : Nat → Int} (hs : ∀ v, s v = 0 ∨ s v = 1) (hy : fl_Bd n cp y) (h1 : ∀ a, a < n → s (fr a) = 1 → s (to a) = 0 → cp a ≠ -1 ∧ x a = cp a) (h2 : ∀ a, a < n → s (fr a) = 0 → s (to a) = 1 → x a = 0) :
    fl_S 8 (fun v => s v * fl_div n fr to y v) ≤ fl_S 8 (fun v => s v * fl_div n fr to x v) := by
  have h := fl_weak (N := 8) (cap := cp) (c := fun _ => 0) (pt := fun v => -s v) (x := x) ha.w hy (fun a h => by
    have a1 := hs (fr a)
    have a2 := hs (to a)
    constructor
    · intro q
      have q : (0 : Int) + -s (fr a) - -s (to a) < 0 := q
      exact h1 a h (by omega) (by omega)
    · intro q
      have q : 0 < (0 : Int) + -s (fr a) - -s (to a) := q
      exact h2 a h (by omega) (by omega))
  rw [fl_cost_0, fl_cost_0] at h
  have e : ∀ z : Nat → Int, fl_S 8 (fun v => -s v * fl_div n fr to z v) = -fl_S 8 (fun v => s v * fl_div n fr to z v) := by
    intro z
    have := fl_S_mul 8 (-1) (fun v => s v * fl_div n fr to z v)
    rw [show (-1 : Int) * fl_S 8 (fun v => s v * fl_div n fr to z v) = -fl_S 8 (fun v => s v * fl_div n fr to z v) by omega] at this
    rw [← this]
    exact fl_S_congr (fun v _ => by rw [Int.neg_mul]; omega)
  rw [e, e] at h
  omega
theorem rt_bd {ex0 ρ ex : Nat → Int} (hV : fl_V n fr to cp cs sp) (h : rt_I n fr to cp g sp ex0 ρ ex) : fl_Bd n cp (xo ρ) := by
  intro a ha
  obtain ⟨h1, h2, h3⟩ := h.1 a ha
  refine ⟨h2, ?_⟩
  by_cases c : cp a = -1
  · exact Or.inl c
  · right
    unfold cU at h3
    rw [if_neg c] at h3
    show ρ (2 * a + 1) ≤ _
    omega
theorem rt_full {ex0 ρ ex : Nat → Int} (h : rt_I n fr to cp g sp ex0 ρ ex) {a : Nat} (ha : a < n) (hc : ¬ 0 < ρ (2 * a)) : cp a ≠ -1 ∧ xo ρ a = cp a := by
  obtain ⟨h1, h2, h3⟩ := h.1 a ha
  have hp := fl_pos_0 ex
  unfold cU at h3
  by_cases c : cp a = -1
  · rw [if_pos c] at h3
    have := h.2.2.2.2.1 a ha c
    omega
  · rw [if_neg c] at h3
    exact ⟨c, by show ρ (2 * a + 1) = _; omega⟩
theorem rt_slk {ex0 ρ ex : Nat → Int} (h : rt_I n fr to cp g sp ex0 ρ ex) : ∃ pt, fl_Slk n fr to cp g pt (xo ρ) := by
  obtain ⟨pt, hpt⟩ := h.2.2.1
  refine ⟨pt, fun a ha => ⟨fun q => ?_, fun q => ?_⟩⟩
  · refine rt_full h ha (fun o => ?_)
    have := hpt (2 * a) (by omega) o
    rw [lk_t0, lk_h0, lk_w0] at this
    omega
  · have h2 := (h.1 a ha).2.1
    have : ¬ 0 < ρ (2 * a + 1) := fun o => by
      have := hpt (2 * a + 1) (by omega) o
      rw [lk_t1, lk_h1, lk_w1] at this
      omega
    show ρ (2 * a + 1) = 0
    omega
theorem rt_flow {ex0 ρ ex : Nat → Int} (hV : fl_V n fr to cp cs sp) (h : rt_I n fr to cp g sp ex0 ρ ex) (h0 : ∀ v, v < 8 → ex v = 0) : fl_Op n fr to cp g sp (xo ρ) := by
  obtain ⟨pt, hs⟩ := rt_slk h
  refine fl_opt hV.2.1 ⟨rt_bd hV h, fun v hv => ?_⟩ hs
  have := h.2.1 v hv
  rw [h0 v hv] at this
  omega
theorem rt_none {ex0 ρ ex : Nat → Int} (hV : fl_V n fr to cp cs sp) (h : rt_I n fr to cp g sp ex0 ρ ex) (hE : rt_E n fr to ρ ex) (h0 : ¬ ∀ v, v < 8 → ex v = 0) : ¬ ∃ y, fl_Fs n fr to cp sp y := by
  rintro ⟨y, hy⟩
  have ha := hV.2.1
  obtain ⟨S, s1, s2, s3⟩ := hE
  obtain ⟨s, hs⟩ := fl_ind S
  have h01 : ∀ v, s v = 0 ∨ s v = 1 := fun v => by
    by_cases c : S v
    · exact Or.inr ((hs v).1 c)
    · exact Or.inl ((hs v).2 c)
  have hS1 : ∀ v, s v = 1 → S v := fun v q => Classical.byContradiction fun c => by
    have := (hs v).2 c
    omega
  have hS0 : ∀ v, s v = 0 → ¬ S v := fun v q c => by
    have := (hs v).1 c
    omega
  have hc := fl_cut (cp := cp) (x := xo ρ) ha h01 hy.1 (fun a h1 q1 q2 => rt_full h h1 (fun o => by
      have := s3 (2 * a) (by omega) o
      rw [lk_t0, lk_h0] at this
      exact hS0 _ q2 (this (hS1 _ q1)))) (fun a h1 q1 q2 => by
      have h2 := (h.1 a h1).2.1
      have : ¬ 0 < ρ (2 * a + 1) := fun o => by
        have := s3 (2 * a + 1) (by omega) o
        rw [lk_t1, lk_h1] at this
        exact hS0 _ q1 (this (hS1 _ q2))
      show ρ (2 * a + 1) = 0
      omega)
  have e1 : fl_S 8 (fun v => s v * fl_div n fr to (xo ρ) v) = fl_S 8 (fun v => s v * sp v) - fl_S 8 (fun v => s v * ex v) := by
    rw [← fl_S_sub]
    refine fl_S_congr (fun v hv => ?_)
    have := h.2.1 v hv
    rw [show fl_div n fr to (xo ρ) v = sp v - ex v by omega, Int.mul_sub]
  have e2 : fl_S 8 (fun v => s v * fl_div n fr to y v) = fl_S 8 (fun v => s v * sp v) := fl_S_congr (fun v hv => by rw [hy.2 v hv])
  have hnn : ∀ v, v < 8 → 0 ≤ s v * ex v := fun v hv => by
    rcases h01 v with q | q
    · rw [q]; simp
    · rw [q]
      by_cases c : ex v < 0
      · exact absurd (hS1 v q) (s2 v hv c)
      · omega
  have hz : fl_S 8 (fun v => s v * ex v) ≤ 0 := by omega
  have hall : ∀ v, v < 8 → ex v ≤ 0 := by
    intro v hv
    by_cases c : 0 < ex v
    · have q := (hs v).1 (s1 v hv c)
      have h1 : fl_S 8 (fun i => if i = v then (fun j => s j * ex j) i else 0) ≤ fl_S 8 (fun v => s v * ex v) := fl_S_le (fun i hi => by
        by_cases e : i = v
        · rw [if_pos e]; exact Int.le_refl _
        · rw [if_neg e]; exact hnn i hi)
      rw [fl_S_pick hv] at h1
      have h1 : s v * ex v ≤ fl_S 8 (fun v => s v * ex v) := h1
      rw [q] at h1
      omega
    · omega
  have hsum : fl_S 8 ex = 0 := by
    have q1 := fl_div_sum ha.w (xo ρ)
    have q2 := fl_div_sum ha.w y
    have q3 : fl_S 8 (fun v => fl_div n fr to y v) = fl_S 8 sp := fl_S_congr (fun v hv => hy.2 v hv)
    have q4 : fl_S 8 ex = fl_S 8 (fun v => sp v - fl_div n fr to (xo ρ) v) := fl_S_congr (fun v hv => h.2.1 v hv)
    rw [fl_S_sub] at q4
    have q5 : fl_S 8 (fun v => sp v) = fl_S 8 sp := rfl
    have q6 : fl_S 8 (fl_div n fr to (xo ρ)) = 0 := q1
    have q7 : fl_S 8 (fl_div n fr to y) = 0 := q2
    omega
  refine h0 (fun v hv => ?_)
  have h1 : fl_S 8 ex ≤ fl_S 8 (fun i => if i = v then ex i else 0) := fl_S_le (fun i hi => by
    by_cases e : i = v
    · rw [if_pos e]; exact Int.le_refl _
    · rw [if_neg e]; exact hall i hi)
  rw [fl_S_pick hv] at h1
  have := hall v hv
  omega
end MATH
theorem p_isBal_in (σ : fl_St) : ∀ (f i : Nat), i ≤ 8 → 8 - i < f → (∀ v, v < i → rv σ 9 v = 0) → ∃ ix : Nat, f_X1_isBalanced_l2 σ f (nI i) = some ix ∧ (ix = 0 ↔ ∀ v, v < 8 → rv σ 9 v = 0) := by
  intro f
  induction f with
  | zero => intro i h1 h2; omega
  | succ f ih =>
    intro i h1 h2 hz
    by_cases c : i = 8
    · subst c
      exact ⟨0, by rw [f_X1_isBalanced_l2]; rfl, fun _ => hz, fun _ => rfl⟩
    · rw [f_X1_isBalanced_l2, if_neg (nI_8 (by omega)), fl_rd_n (by omega) (by omega), fl_bs, nI_1]
      have z : (0 : Int32).toInt = 0 := by decide
      by_cases c2 : rv σ 9 i = 0
      · rw [if_pos (by rw [i_eq, z]; exact c2)]
        exact ih (i + 1) (by omega) (by omega) (fun v hv => by
          by_cases e : v = i
          · rw [e]; exact c2
          · exact hz v (by omega))
      · rw [if_neg (fun q => c2 (by rw [i_eq, z] at q; exact q))]
        exact ⟨1, rfl, (fun q => by omega), fun q => absurd (q i (by omega)) c2⟩
theorem p_isBal (σ : fl_St) : ∃ b : Bool, f_X1_isBalanced σ = some (b2i b) ∧ (b = true ↔ ∀ v, v < 8 → rv σ 9 v = 0) := by
  obtain ⟨ix, e1, e2⟩ := p_isBal_in σ fl_N 0 (by omega) (by unfold fl_N; omega) (fun v hv => by omega)
  unfold f_X1_isBalanced
  rw [show f_X1_isBalanced_l2 σ fl_N 0 = some ix from e1, fl_bs]
  by_cases c : ix = 0
  · exact ⟨true, by rw [if_pos c]; rfl, fun _ => e2.mp c, fun _ => rfl⟩
  · exact ⟨false, by rw [if_neg c]; rfl, (fun q => by cases q), fun q => absurd (e2.mpr q) c⟩
section STATE
variable {n : Nat} {fr to : Nat → Nat} {cp cs sp : Nat → Int}
/-- the router holds a cheapest flow for the weights g -/
def cl_So (σ : fl_St) (n : Nat) (fr to : Nat → Nat) (cp g sp : Nat → Int) : Prop :=
  cl_L σ n fr to (lk_w g) ∧ (∃ ex0, rt_I n fr to cp g sp ex0 (rv σ 8) (rv σ 9)) ∧ ∀ v, v < 8 → rv σ 9 v = 0
theorem fl_one (cs : Nat → Int) : (fun a => (1 : Int) * cs a) = cs := by funext a; omega
theorem fl_nul (cs : Nat → Int) : (fun a => (0 : Int) * cs a) = fun _ => 0 := by funext a; omega
theorem p_state (hV : fl_V n fr to cp cs sp) {σ : fl_St} (hN : cl_N σ n fr to cp cs sp) :
    ∃ (r : Int32) (σ' : fl_St), f_X2_state σ = some (r, σ') ∧ cl_N σ' n fr to cp cs sp ∧
      ((r = -1000002 ∧ ¬ ∃ y, fl_Fs n fr to cp sp y) ∨ (r = -1000003 ∧ (∃ y, fl_Fs n fr to cp sp y) ∧ ¬ ∃ d, fl_PotU n fr to cp cs d) ∨ (r = 0 ∧ (∃ d, fl_PotU n fr to cp cs d) ∧ cl_So σ' n fr to cp cs sp)) := by
  obtain ⟨σ1, a1, a2, a3, a4⟩ := p_lay hV (x1 := 1) (sc := 1) (by decide) (by decide) hN
  rw [fl_one] at a3
  have hg : ∀ a, a < n → -50461 ≤ cs a ∧ cs a ≤ 50461 := fun a h => by have := hV.2.2.1 a h; omega
  obtain ⟨b, σ2, b1, b2, b3, b4⟩ := p_route hV hg a4 a3
  unfold f_X2_state
  rw [a1, fl_bs, b1, fl_b2s]
  cases b with
  | true =>
    obtain ⟨hU, ex0, -, hI, hE⟩ := b4 rfl
    rw [if_neg (by decide)]
    obtain ⟨b5, c1, c2⟩ := p_isBal σ2
    rw [c1, fl_bs]
    cases b5 with
    | true =>
      refine ⟨0, σ2, rfl, b2.N a4, Or.inr (Or.inr ⟨rfl, hU, b2.L a3, ⟨ex0, hI⟩, c2.mp rfl⟩)⟩
    | false =>
      refine ⟨-1000002, σ2, rfl, b2.N a4, Or.inl ⟨rfl, rt_none hV hI hE (fun q => by have := c2.mpr q; cases this)⟩⟩
  | false =>
    have hU := b3 rfl
    rw [if_pos (by decide)]
    obtain ⟨σ3, d1, d2, d3, d4⟩ := p_lay hV (x1 := 0) (sc := 0) (by decide) (by decide) (b2.N a4)
    rw [fl_nul] at d3
    obtain ⟨b5, σ4, e1, e2, e3, e4⟩ := p_route (g := fun _ => 0) hV (fun a _ => by constructor <;> decide) d4 d3
    rw [d1, fl_bs, e1, fl_b2s]
    obtain ⟨b6, c1, c2⟩ := p_isBal σ4
    rw [c1, fl_bs]
    cases b5 with
    | false => exact absurd ⟨fun _ => 0, fun a _ _ => by simp⟩ (e3 rfl)
    | true =>
      obtain ⟨-, ex0, -, hI, hE⟩ := e4 rfl
      cases b6 with
      | true =>
        refine ⟨-1000003, σ4, rfl, e2.N d4, Or.inr (Or.inl ⟨rfl, ⟨_, (rt_flow hV hI (c2.mp rfl)).1⟩, hU⟩)⟩
      | false =>
        refine ⟨-1000002, σ4, rfl, e2.N d4, Or.inl ⟨rfl, rt_none hV hI hE (fun q => by have := c2.mpr q; cases this)⟩⟩
theorem p_cof_in (hV : fl_V n fr to cp cs sp) {σ : fl_St} (hN : cl_N σ n fr to cp cs sp) (h8 : ∀ a, a < n → 0 ≤ rv σ 8 (2 * a + 1) ∧ rv σ 8 (2 * a + 1) ≤ 1680) :
    ∀ (f i : Nat) (x1 : Int32), i ≤ n → n - i < f → x1.toInt = fl_cost i cs (xo (rv σ 8)) → -(110000 * (i : Int)) ≤ x1.toInt → x1.toInt ≤ 110000 * (i : Int) →
      ∃ r, f_X1_costOfFlow_l4 σ f x1 (nI i) = some r ∧ r.toInt = fl_cost n cs (xo (rv σ 8)) := by
  have hn := hV.1
  intro f
  induction f with
  | zero => intro i x1 h1 h2; omega
  | succ f ih =>
    intro i x1 h1 h2 hx b1 b2
    by_cases c : i = n
    · subst c
      exact ⟨x1, by rw [f_X1_costOfFlow_l4, hN.1, if_pos (nI_le (Nat.le_refl _) (by omega))], hx⟩
    · have hlt : i < n := by omega
      obtain ⟨-, -, -, q3⟩ := hN.2.1 i hlt
      obtain ⟨-, c1, c2⟩ := hV.2.2.1 i hlt
      have c3 := h8 i hlt
      rw [f_X1_costOfFlow_l4, hN.1, if_neg (nI_ge hlt (by omega)), nI_21, nI_1, fl_rd_n (by omega) (by omega), fl_bs, fl_rd_n (by omega) (by omega), fl_bs]
      have p1 : cs i * rv σ 8 (2 * i + 1) ≤ 60 * rv σ 8 (2 * i + 1) := Int.mul_le_mul_of_nonneg_right c2 c3.1
      have p2 : (-60) * rv σ 8 (2 * i + 1) ≤ cs i * rv σ 8 (2 * i + 1) := Int.mul_le_mul_of_nonneg_right c1 c3.1
      have m1 : (σ 3 i * σ 8 (2 * i + 1)).toInt = cs i * rv σ 8 (2 * i + 1) := by
        rw [i_mul (by rw [q3]; show _ ≤ cs i * rv σ 8 (2 * i + 1); omega) (by rw [q3]; show cs i * rv σ 8 (2 * i + 1) ≤ _; omega), q3]
      have m2 : (x1 + σ 3 i * σ 8 (2 * i + 1)).toInt = x1.toInt + cs i * rv σ 8 (2 * i + 1) := by
        rw [i_add (by omega) (by omega), m1]
      refine ih (i + 1) _ (by omega) (by omega) ?_ (by rw [m2]; omega) (by rw [m2]; omega)
      rw [m2, hx]
      rfl
theorem p_cof (hV : fl_V n fr to cp cs sp) {σ : fl_St} (hN : cl_N σ n fr to cp cs sp) (h8 : ∀ a, a < n → 0 ≤ rv σ 8 (2 * a + 1) ∧ rv σ 8 (2 * a + 1) ≤ 1680) : ∃ r, f_X1_costOfFlow σ = some r ∧ r.toInt = fl_cost n cs (xo (rv σ 8)) := by
  obtain ⟨r, e1, e2⟩ := p_cof_in hV hN h8 fl_N 0 0 (by omega) (by have := hV.1; unfold fl_N; omega) (by rfl) (by decide) (by decide)
  refine ⟨r, ?_, e2⟩
  unfold f_X1_costOfFlow
  rw [show f_X1_costOfFlow_l4 σ fl_N 0 0 = some r from e1, fl_bs]
theorem rt_8 {ex0 ρ ex g : Nat → Int} (hV : fl_V n fr to cp cs sp) (h : rt_I n fr to cp g sp ex0 ρ ex) : ∀ a, a < n → 0 ≤ ρ (2 * a + 1) ∧ ρ (2 * a + 1) ≤ 1680 := by
  intro a ha
  obtain ⟨h1, h2, h3⟩ := h.1 a ha
  have := (hV.2.2.1 a ha).1
  unfold cU at h3
  split at h3 <;> omega
theorem p_cost (hV : fl_V n fr to cp cs sp) {σ : fl_St} (hN : cl_N σ n fr to cp cs sp) :
    ∃ (r : Int32) (σ' : fl_St), f_X2_cost σ = some (r, σ') ∧ cl_N σ' n fr to cp cs sp ∧
      ((r = -1000002 ∧ ¬ ∃ y, fl_Fs n fr to cp sp y) ∨ (r = -1000003 ∧ (∃ y, fl_Fs n fr to cp sp y) ∧ ¬ ∃ d, fl_PotU n fr to cp cs d) ∨ ((∃ d, fl_PotU n fr to cp cs d) ∧ ∃ x, fl_Op n fr to cp cs sp x ∧ r.toInt = fl_cost n cs x)) := by
  obtain ⟨r, σ1, a1, a2, a3⟩ := p_state hV hN
  unfold f_X2_cost
  rw [a1, fl_b2s]
  rcases a3 with ⟨rfl, a3⟩ | ⟨rfl, a3⟩ | ⟨rfl, a3, a4, ⟨ex0, a5⟩, a6⟩
  · exact ⟨_, σ1, rfl, a2, Or.inl ⟨rfl, a3⟩⟩
  · exact ⟨_, σ1, rfl, a2, Or.inr (Or.inl ⟨rfl, a3⟩)⟩
  · obtain ⟨r, c1, c2⟩ := p_cof hV a2 (rt_8 hV a5)
    rw [if_pos rfl, c1, fl_bs]
    exact ⟨r, σ1, rfl, a2, Or.inr (Or.inr ⟨a3, _, rt_flow hV a5 a6, c2⟩)⟩
end STATE
