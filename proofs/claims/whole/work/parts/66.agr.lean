/-! pure rows: class and reference agree: state, cost, amount, bottleneck, marginal, least, most, slack -/
def ag (σ τ : fl_St) : Prop := ∃ (n : Nat) (fr to : Nat → Nat) (cp cs sp : Nat → Int), ag_V n fr to cp cs sp ∧ cl_N σ n fr to cp cs sp ∧ md_N τ n fr to cp cs sp
/-- one of the three states, and what holds in the third -/
def ot (F P X : Prop) (r : Int32) : Prop := (r = -1000002 ∧ ¬ F) ∨ (r = -1000003 ∧ F ∧ ¬ P) ∨ (P ∧ F ∧ X)
theorem ot.eq {F P X Y : Prop} {r q : Int32} (h : ot F P X r) (h' : ot F P Y q) (hx : P → F → X → Y → r = q) : r = q := by
  rcases h with ⟨rfl, h⟩ | ⟨rfl, h, h2⟩ | ⟨h, h2, h3⟩ <;> rcases h' with ⟨rfl, k⟩ | ⟨rfl, k, k2⟩ | ⟨k, k2, k3⟩
  · rfl
  · exact absurd k h
  · exact absurd k2 h
  · exact absurd h k
  · rfl
  · exact absurd k h2
  · exact absurd h2 k
  · exact absurd h k2
  · exact hx h h2 h3 k3
theorem i_ran {x : Int32} {n : Nat} (h0 : 0 ≤ x.toInt) (h1 : x.toInt < (n : Int)) (hn : n ≤ 1000) : ∃ u, u < n ∧ x = nI u := by
  refine ⟨x.toInt.toNat, by omega, ?_⟩
  rw [i_eq, nI_t (by omega)]
  omega
theorem in_v (x lo hi : Int32) (τ : fl_St) : f_X3_in x lo hi τ = some (if lo.toInt ≤ x.toInt ∧ x.toInt ≤ hi.toInt then 1 else 0) := by
  unfold f_X3_in
  by_cases c1 : x < lo
  · rw [if_pos c1, fl_bs, if_neg (by decide), if_neg (by rw [i_lt] at c1; omega)]
  · rw [if_neg c1]
    by_cases c2 : hi < x
    · rw [if_pos c2, fl_bs, if_neg (by decide), if_neg (by rw [i_lt] at c2; omega)]
    · rw [if_neg c2, fl_bs, if_neg (by decide), if_pos (by rw [i_lt] at c1 c2; omega)]
theorem ag_node (x : Int32) (σ τ : fl_St) : (f_X2_isNode x σ = some 0 ∧ f_X3_in x 0 7 τ = some 0) ∨ ∃ u, u < 8 ∧ x = nI u ∧ f_X2_isNode x σ = some 1 ∧ f_X3_in x 0 7 τ = some 1 := by
  have z0 : (0 : Int32).toInt = 0 := by decide
  have z7 : (7 : Int32).toInt = 7 := by decide
  have z8 : (8 : Int32).toInt = 8 := by decide
  rw [in_v, z0, z7]
  unfold f_X2_isNode
  by_cases c1 : x < 0
  · rw [if_pos c1, fl_bs, if_neg (by decide)]
    rw [i_lt, z0] at c1
    exact Or.inl ⟨rfl, by rw [if_neg (by omega)]⟩
  · rw [if_neg c1]
    rw [i_lt, z0] at c1
    by_cases c2 : (8 : Int32) ≤ x
    · rw [if_pos c2, fl_bs, if_neg (by decide)]
      rw [i_le, z8] at c2
      exact Or.inl ⟨rfl, by rw [if_neg (by omega)]⟩
    · rw [if_neg c2, fl_bs, if_neg (by decide)]
      rw [i_le, z8] at c2
      obtain ⟨u, h1, h2⟩ := i_ran (x := x) (n := 8) (by omega) (by omega) (by omega)
      exact Or.inr ⟨u, h1, h2, rfl, by rw [if_pos (by omega)]⟩
section AG
variable {n : Nat} {fr to : Nat → Nat} {cp cs sp : Nat → Int}
theorem ag_arc (hn : n ≤ 20) (x : Int32) {σ τ : fl_St} (hN : cl_N σ n fr to cp cs sp) (hM : md_N τ n fr to cp cs sp) : (f_X2_isArc x σ = some 0 ∧ f_X3_in x 0 (τ 13 0 - 1) τ = some 0) ∨ ∃ a, a < n ∧ x = nI a ∧ f_X2_isArc x σ = some 1 ∧ f_X3_in x 0 (τ 13 0 - 1) τ = some 1 := by
  have z0 : (0 : Int32).toInt = 0 := by decide
  have z1 : (1 : Int32).toInt = 1 := by decide
  have e1 : (nI n - 1).toInt = (n : Int) - 1 := by rw [i_sub (by rw [nI_t (by omega), z1]; omega) (by rw [nI_t (by omega), z1]; omega), nI_t (by omega), z1]
  have e2 : (nI n).toInt = (n : Int) := nI_t (by omega)
  rw [in_v, z0, hM.1, e1]
  unfold f_X2_isArc
  rw [hN.1]
  by_cases c1 : x < 0
  · rw [if_pos c1, fl_bs, if_neg (by decide)]
    rw [i_lt, z0] at c1
    exact Or.inl ⟨rfl, by rw [if_neg (by omega)]⟩
  · rw [if_neg c1]
    rw [i_lt, z0] at c1
    by_cases c2 : nI n ≤ x
    · rw [if_pos c2, fl_bs, if_neg (by decide)]
      rw [i_le, e2] at c2
      exact Or.inl ⟨rfl, by rw [if_neg (by omega)]⟩
    · rw [if_neg c2, fl_bs, if_neg (by decide)]
      rw [i_le, e2] at c2
      obtain ⟨u, h1, h2⟩ := i_ran (x := x) (n := n) (by omega) (by omega) (by omega)
      exact Or.inr ⟨u, h1, h2, rfl, by rw [if_pos (by omega)]⟩
theorem ag_opc {x y : Nat → Int} (hx : fl_Op n fr to cp cs sp x) (hy : fl_Op n fr to cp cs sp y) : fl_cost n cs x = fl_cost n cs y := by
  have h1 := hx.2 _ hy.1
  have h2 := hy.2 _ hx.1
  omega
theorem st_ot (hV : fl_V n fr to cp cs sp) {σ : fl_St} (hN : cl_N σ n fr to cp cs sp) :
    ∃ (r : Int32) (σ' : fl_St), f_X2_state σ = some (r, σ') ∧ cl_N σ' n fr to cp cs sp ∧ ot (∃ y, fl_Fs n fr to cp sp y) (∃ d, fl_PotU n fr to cp cs d) (r = 0 ∧ cl_So σ' n fr to cp cs sp) r := by
  obtain ⟨r, σ1, a1, a2, a3⟩ := p_state hV hN
  refine ⟨r, σ1, a1, a2, ?_⟩
  rcases a3 with h | h | ⟨h1, h2, h3⟩
  · exact Or.inl h
  · exact Or.inr (Or.inl h)
  · obtain ⟨-, ⟨ex0, q⟩, q2⟩ := id h3
    exact Or.inr (Or.inr ⟨h2, ⟨_, (rt_flow hV q q2).1⟩, h1, h3⟩)
theorem so_ot (hH : md_H n fr to cp cs sp) {τ : fl_St} (hM : md_N τ n fr to cp cs sp) :
    ∃ (r : Int32) (τ' : fl_St), f_X3_solve τ = some (r, τ') ∧ md_N τ' n fr to cp cs sp ∧ ot (∃ y, fl_Fs n fr to cp sp y) (∃ d, fl_PotU n fr to cp cs d) (r = 0 ∧ so_I τ' n fr to cp cs sp) r := by
  obtain ⟨hV, hsp, hsum, hsm⟩ := hH
  obtain ⟨r, σ1, a1, a2, a3⟩ := p_solve hV hsp hsum hsm hM
  refine ⟨r, σ1, a1, a2, ?_⟩
  rcases a3 with h | h | ⟨h1, h2, h3⟩
  · exact Or.inl h
  · exact Or.inr (Or.inl h)
  · exact Or.inr (Or.inr ⟨h2, ⟨_, h3.1.1⟩, h1, h3⟩)
theorem md_N.us {τ : fl_St} (hN : md_N τ n fr to cp cs sp) (u : Nat) {x : Int32} {z : Int} (hx : x.toInt = z) : md_N (st τ 4 u x) n fr to cp cs (fl_up sp u z) := by
  obtain ⟨h1, h2, h3⟩ := hN
  refine ⟨by rw [st_k _ _ _ (by decide)]; exact h1, fun b hb => ?_, fun v hv => ?_⟩
  · rw [st_k _ _ _ (by decide), st_k _ _ _ (by decide), st_k _ _ _ (by decide), st_k _ _ _ (by decide)]
    exact h2 b hb
  · by_cases e : v = u
    · rw [e, st_s, fl_up_s]; exact hx
    · rw [st_j _ _ _ e, fl_up_n _ _ e]; exact h3 v hv
theorem cl_N.us {τ : fl_St} (hN : cl_N τ n fr to cp cs sp) (u : Nat) {x : Int32} {z : Int} (hx : x.toInt = z) : cl_N (st τ 4 u x) n fr to cp cs (fl_up sp u z) := by
  obtain ⟨h1, h2, h3⟩ := hN
  refine ⟨by rw [st_k _ _ _ (by decide)]; exact h1, fun b hb => ?_, fun v hv => ?_⟩
  · rw [st_k _ _ _ (by decide), st_k _ _ _ (by decide), st_k _ _ _ (by decide), st_k _ _ _ (by decide)]
    exact h2 b hb
  · by_cases e : v = u
    · rw [e, st_s, fl_up_s]; exact hx
    · rw [st_j _ _ _ e, fl_up_n _ _ e]; exact h3 v hv
end AG
theorem ag_state {σ τ : fl_St} (h : ag σ τ) : ∃ r σ' τ', f_X2_state σ = some (r, σ') ∧ f_X3_state τ = some (r, τ') ∧ ag σ' τ' := by
  obtain ⟨n, fr, to, cp, cs, sp, hA, hN, hM⟩ := h
  obtain ⟨r, σ', a1, a2, a3⟩ := st_ot hA.V hN
  obtain ⟨q, τ', b1, b2, b3⟩ := so_ot hA.H hM
  have e := a3.eq b3 (fun _ _ h1 h2 => h1.1.trans h2.1.symm)
  subst e
  exact ⟨r, σ', τ', a1, by unfold f_X3_state; rw [b1, fl_b2s], n, fr, to, cp, cs, sp, hA, a2, b2⟩
theorem ag_cost {σ τ : fl_St} (h : ag σ τ) : ∃ r σ' τ', f_X2_cost σ = some (r, σ') ∧ f_X3_cost τ = some (r, τ') ∧ ag σ' τ' := by
  obtain ⟨n, fr, to, cp, cs, sp, hA, hN, hM⟩ := h
  obtain ⟨r, σ', a1, a2, a3⟩ := p_cost hA.V hN
  obtain ⟨q, τ', b1, b2, b3⟩ := so_ot hA.H hM
  refine ⟨r, σ', τ', a1, ?_, n, fr, to, cp, cs, sp, hA, a2, b2⟩
  unfold f_X3_cost
  rw [b1, fl_b2s]
  have ha : ot (∃ y, fl_Fs n fr to cp sp y) (∃ d, fl_PotU n fr to cp cs d) (∃ x, fl_Op n fr to cp cs sp x ∧ r.toInt = fl_cost n cs x) r := by
    rcases a3 with h | h | ⟨h1, x, h2, h3⟩
    · exact Or.inl h
    · exact Or.inr (Or.inl h)
    · exact Or.inr (Or.inr ⟨h1, ⟨x, h2.1⟩, x, h2, h3⟩)
  obtain ⟨q2, e, hb⟩ : ∃ q2 : Int32, (if 0 ≤ q then (some (τ' 13 2)) else some q) = some q2 ∧ ot (∃ y, fl_Fs n fr to cp sp y) (∃ d, fl_PotU n fr to cp cs d) (∃ x, fl_Op n fr to cp cs sp x ∧ q2.toInt = fl_cost n cs x) q2 := by
    rcases b3 with ⟨rfl, h⟩ | ⟨rfl, h⟩ | ⟨h1, h2, rfl, h3⟩
    · exact ⟨_, if_neg (by decide), Or.inl ⟨rfl, h⟩⟩
    · exact ⟨_, if_neg (by decide), Or.inr (Or.inl ⟨rfl, h⟩)⟩
    · exact ⟨_, if_pos (by decide), Or.inr (Or.inr ⟨h1, h2, _, h3.1, h3.2.2.2.1⟩)⟩
  rw [e, fl_bs, ha.eq hb (fun _ _ ⟨x, h1, h2⟩ ⟨y, k1, k2⟩ => by rw [i_eq, h2, k2, ag_opc h1 k1])]
theorem ag_amount {σ τ : fl_St} (h : ag σ τ) : ∃ r σ' τ', f_X2_amount σ = some (r, σ') ∧ f_X3_amount τ = some (r, τ') ∧ ag σ' τ' := by
  obtain ⟨n, fr, to, cp, cs, sp, hA, hN, hM⟩ := h
  obtain ⟨r, σ', a1, a2, a3⟩ := p_amount hA.V hN
  obtain ⟨q, τ', b1, b2, b3⟩ := p_amountM hA.H.1 hA.H.2.1 hM
  have e : r = q := by rw [i_eq]; exact a3.eq b3
  subst e
  exact ⟨r, σ', τ', a1, b1, n, fr, to, cp, cs, sp, hA, a2, b2⟩
theorem ag_bottleneck {σ τ : fl_St} (h : ag σ τ) : ∃ r σ', f_X2_bottleneck σ = some (r, σ') ∧ f_X3_bottleneck τ = some r ∧ ag σ' τ := by
  obtain ⟨n, fr, to, cp, cs, sp, hA, hN, hM⟩ := h
  obtain ⟨M, σ', s, a1, a2, a3, a4, a5⟩ := p_bottleneck hA.V hN
  exact ⟨_, σ', a1, p_bottM hA.H.1 hA.H.2.1 hM a3 a4 a5, n, fr, to, cp, cs, sp, hA, a2, hM⟩
theorem ag_least (x : Int32) {σ τ : fl_St} (h : ag σ τ) : ∃ r σ' τ', f_X2_least x σ = some (r, σ') ∧ f_X3_least x τ = some (r, τ') ∧ ag σ' τ' := by
  obtain ⟨n, fr, to, cp, cs, sp, hA, hN, hM⟩ := id h
  rcases ag_arc hA.1 x hN hM with ⟨c1, c2⟩ | ⟨a, ha, rfl, c1, c2⟩
  · exact ⟨-1000000, σ, τ, by unfold f_X2_least; rw [c1, fl_bs, if_pos rfl], by unfold f_X3_least; rw [c2, fl_bs, if_pos rfl], h⟩
  · obtain ⟨r, σ', a1, a2, a3⟩ := p_least hA.V hN ha c1
    obtain ⟨q, τ', b1, b2, b3⟩ := p_leastM hA.H hM ha c2
    have key : ∀ r : Int32, ((r = -1000002 ∧ ¬ ∃ y, fl_Fs n fr to cp sp y) ∨ (r = -1000003 ∧ (∃ y, fl_Fs n fr to cp sp y) ∧ ¬ ∃ d, fl_PotU n fr to cp cs d) ∨
        ((∃ d, fl_PotU n fr to cp cs d) ∧ ∃ x, fl_Op n fr to cp cs sp x ∧ r.toInt = x a ∧ ∀ y, fl_Op n fr to cp cs sp y → x a ≤ y a)) → ot (∃ y, fl_Fs n fr to cp sp y) (∃ d, fl_PotU n fr to cp cs d) (∃ x, fl_Op n fr to cp cs sp x ∧ r.toInt = x a ∧ ∀ y, fl_Op n fr to cp cs sp y → x a ≤ y a) r := by
      intro r h
      rcases h with h | h | ⟨h1, x, h2, h3⟩
      · exact Or.inl h
      · exact Or.inr (Or.inl h)
      · exact Or.inr (Or.inr ⟨h1, ⟨x, h2.1⟩, x, h2, h3⟩)
    have e := (key r a3).eq (key q b3) (fun _ _ ⟨x, h1, h2, h3⟩ ⟨y, k1, k2, k3⟩ => by
      rw [i_eq, h2, k2]
      have := h3 _ k1
      have := k3 _ h1
      omega)
    subst e
    exact ⟨r, σ', τ', a1, b1, n, fr, to, cp, cs, sp, hA, a2, b2⟩
theorem ag_most (x : Int32) {σ τ : fl_St} (h : ag σ τ) : ∃ r σ' τ', f_X2_most x σ = some (r, σ') ∧ f_X3_most x τ = some (r, τ') ∧ ag σ' τ' := by
  obtain ⟨n, fr, to, cp, cs, sp, hA, hN, hM⟩ := id h
  rcases ag_arc hA.1 x hN hM with ⟨c1, c2⟩ | ⟨a, ha, rfl, c1, c2⟩
  · exact ⟨-1000000, σ, τ, by unfold f_X2_most; rw [c1, fl_bs, if_pos rfl], by unfold f_X3_most; rw [c2, fl_bs, if_pos rfl], h⟩
  · obtain ⟨r, σ', a1, a2, a3⟩ := p_most hA.V hN ha c1
    obtain ⟨q, τ', b1, b2, b3⟩ := p_mostM hA.H hM ha c2
    have h1 : ot (∃ y, fl_Fs n fr to cp sp y) (∃ d, fl_PotU n fr to cp cs d) ((r = -1000004 ∧ ¬ ∃ d, fl_PotU n fr to cp (gt cs a (-1)) d) ∨ ((∃ d, fl_PotU n fr to cp (gt cs a (-1)) d) ∧ ∃ x, fl_Op n fr to cp cs sp x ∧ r.toInt = x a ∧ ∀ y, fl_Op n fr to cp cs sp y → y a ≤ x a)) r := by
      rcases a3 with h | h | ⟨h1, ⟨h2, h3, h4⟩ | ⟨h2, h3, -, h4⟩⟩
      · exact Or.inl h
      · exact Or.inr (Or.inl h)
      · exact Or.inr (Or.inr ⟨h1, h3, Or.inl ⟨h2, h4⟩⟩)
      · exact Or.inr (Or.inr ⟨h1, ⟨_, h4.1.1⟩, Or.inr ⟨h2, _, h4.1, by rw [h3], h4.2.1⟩⟩)
    have h2 : ot (∃ y, fl_Fs n fr to cp sp y) (∃ d, fl_PotU n fr to cp cs d) ((q = -1000004 ∧ ¬ ∃ d, fl_PotU n fr to cp (gt cs a (-1)) d) ∨ ((∃ d, fl_PotU n fr to cp (gt cs a (-1)) d) ∧ ∃ x, fl_Op n fr to cp cs sp x ∧ q.toInt = x a ∧ ∀ y, fl_Op n fr to cp cs sp y → y a ≤ x a)) q := b3
    have e := h1.eq h2 (fun _ _ h k => by
      rcases h with ⟨rfl, h⟩ | ⟨h, x, x1, x2, x3⟩ <;> rcases k with ⟨rfl, k⟩ | ⟨k, y, y1, y2, y3⟩
      · rfl
      · exact absurd k h
      · exact absurd h k
      · rw [i_eq, x2, y2]
        have := x3 _ y1
        have := y3 _ x1
        omega)
    subst e
    exact ⟨r, σ', τ', a1, b1, n, fr, to, cp, cs, sp, hA, a2, b2⟩
theorem ag_slack (x : Int32) {σ τ : fl_St} (h : ag σ τ) : ∃ r σ' τ', f_X2_slack x σ = some (r, σ') ∧ f_X3_slack x τ = some (r, τ') ∧ ag σ' τ' := by
  obtain ⟨n, fr, to, cp, cs, sp, hA, hN, hM⟩ := id h
  rcases ag_arc hA.1 x hN hM with ⟨c1, c2⟩ | ⟨a, ha, rfl, c1, c2⟩
  · refine ⟨-1000000, σ, τ, ?_, by unfold f_X3_slack; rw [c2, fl_bs, if_pos rfl], h⟩
    have e : f_X2_most x σ = some (-1000000, σ) := by unfold f_X2_most; rw [c1, fl_bs, if_pos rfl]
    unfold f_X2_slack
    rw [e, fl_b2s, if_neg (by decide), if_neg (by decide)]
  · obtain ⟨r, σ', a1, a2, a3⟩ := p_slack hA.V hN ha c1
    obtain ⟨q, τ', b1, b2, b3⟩ := p_slackM hA hM ha c2
    have h1 : ot (∃ y, fl_Fs n fr to cp sp y) (∃ d, fl_PotU n fr to cp cs d) ((r = 0 ∧ ¬ ∃ d, fl_PotU n fr to cp (gt cs a (-1)) d) ∨ ((∃ d, fl_PotU n fr to cp (gt cs a (-1)) d) ∧ ∃ x, fl_Op n fr to cp cs sp x ∧ (∀ y, fl_Op n fr to cp cs sp y → y a ≤ x a) ∧ sl_I n fr to cp cs sp a (fl_cost n cs x) (x a) r.toInt)) r := a3
    have h2 : ot (∃ y, fl_Fs n fr to cp sp y) (∃ d, fl_PotU n fr to cp cs d) ((q = 0 ∧ ¬ ∃ d, fl_PotU n fr to cp (gt cs a (-1)) d) ∨ ((∃ d, fl_PotU n fr to cp (gt cs a (-1)) d) ∧ ∃ x, fl_Op n fr to cp cs sp x ∧ (∀ y, fl_Op n fr to cp cs sp y → y a ≤ x a) ∧ sl_I n fr to cp cs sp a (fl_cost n cs x) (x a) q.toInt)) q := b3
    have e := h1.eq h2 (fun _ _ h k => by
      rcases h with ⟨rfl, h⟩ | ⟨h, x, x1, x2, x3⟩ <;> rcases k with ⟨rfl, k⟩ | ⟨k, y, y1, y2, y3⟩
      · rfl
      · exact absurd k h
      · exact absurd h k
      · have e1 := x2 _ y1
        have e2 := y2 _ x1
        rw [ag_opc x1 y1, show x a = y a by omega] at x3
        rw [i_eq]
        exact x3.eq y3)
    subst e
    exact ⟨r, σ', τ', a1, b1, n, fr, to, cp, cs, sp, hA, a2, b2⟩
