/-! pure rows: route -/
theorem fl_in_sum {N n : Nat} {to : Nat → Nat} (hn : ∀ a, a < n → to a < N) (x : Nat → Int) : fl_S N (fun v => fl_S n (fun a => if to a = v then x a else 0)) = fl_S n x := by
  rw [fl_S_swap]
  exact fl_S_congr (fun a ha => fl_S_pick' (hn a ha) (fun _ => x a))
theorem fl_S_cst (n : Nat) (c : Int) : fl_S n (fun _ => c) = c * n := by
  induction n with
  | zero => simp [fl_S]
  | succ n ih => rw [fl_S_s, ih, Int.natCast_add, Int.mul_add]; simp
theorem fl_pos_start {n : Nat} {fr to : Nat → Nat} (hn : n ≤ 20) (ha : fl_Ar 8 n fr to) {sp x : Nat → Int} (hs : ∀ v, v < 8 → sp v ≤ 30) (hx : ∀ a, a < n → 0 ≤ x a ∧ x a ≤ 30) : fl_pos (fun v => sp v - fl_div n fr to x v) ≤ 840 := by
  have h1 : fl_pos (fun v => sp v - fl_div n fr to x v) ≤ fl_S 8 (fun v => 30 + fl_S n (fun a => if to a = v then x a else 0)) := fl_S_le (fun v hv => by
    have h2 : -fl_div n fr to x v ≤ fl_S n (fun a => if to a = v then x a else 0) := by
      have h3 : fl_S n (fun a => (if to a = v then x a else 0) - (if fr a = v then x a else 0)) ≤ fl_S n (fun a => if to a = v then x a else 0) := fl_S_le (fun a ha => by
        have := hx a ha
        split <;> split <;> omega)
      have h4 : fl_S n (fun a => (if to a = v then x a else 0) - (if fr a = v then x a else 0)) = -fl_div n fr to x v := by
        unfold fl_div
        rw [fl_S_sub, fl_S_sub]
        omega
      omega
    have h5 : 0 ≤ fl_S n (fun a => if to a = v then x a else 0) := fl_S_nonneg (fun a ha => by
      have := hx a ha
      split <;> omega)
    have h6 := hs v hv
    show (if 0 < sp v - fl_div n fr to x v then sp v - fl_div n fr to x v else 0) ≤ _
    split <;> omega)
  rw [fl_S_add, fl_in_sum (fun a h => (ha a h).2.1), fl_S_cst] at h1
  have h7 : fl_S n x ≤ fl_S n (fun _ => 30) := fl_S_le (fun a h => (hx a h).2)
  rw [fl_S_cst] at h7
  omega
section ROUTE
variable {n : Nat} {fr to : Nat → Nat} {cp cs sp g ex0 : Nat → Int}
theorem p_route_in (hV : fl_V n fr to cp cs sp) (hg : ∀ j, j < 2 * n → -50461 ≤ lk_w g j ∧ lk_w g j ≤ 50461) (hx0 : ∀ v, v < 8 → -1000 ≤ ex0 v ∧ ex0 v ≤ 1000) :
    ∀ (f t : Nat) (σ : fl_St), t ≤ 840 → 842 - t < f → cl_N σ n fr to cp cs sp → cl_L σ n fr to (lk_w g) → rt_I n fr to cp g sp ex0 (rv σ 8) (rv σ 9) → fl_pos (rv σ 9) + t ≤ 840 →
      ∃ σ', f_X1_route_l21 f 1 (nI t) σ = some σ' ∧ cl_F4 σ σ' ∧ rt_I n fr to cp g sp ex0 (rv σ' 8) (rv σ' 9) ∧ rt_E n fr to (rv σ' 8) (rv σ' 9) := by
  intro f
  induction f with
  | zero => intro t σ h1 h2; omega
  | succ f ih =>
    intro t σ h1 h2 hN hl hI ht
    rw [f_X1_route_l21, if_neg (by decide)]
    by_cases c : t = 840
    · subst c
      refine ⟨σ, ?_, fun _ _ => rfl, hI, fun _ => False, ?_, fun _ _ _ h => h, fun _ _ _ h => h⟩
      · rw [if_pos (show (840 : Int32) ≤ nI 840 by decide)]
      · intro v hv h
        have := fl_pos_le hv (ex := rv σ 9) (by omega)
        omega
    · rw [if_neg (show ¬ (840 : Int32) ≤ nI t from nI_ge (a := t) (b := 840) (by omega) (by omega))]
      obtain ⟨b, σ1, e1, e2, e3, e4, e5⟩ := p_sendOnce hV hg hx0 hN hl hI
      rw [e1, fl_b2s, nI_1]
      cases b with
      | false =>
        refine ⟨σ1, ?_, e2, e3, e5 rfl⟩
        cases f with
        | zero => omega
        | succ f => rw [f_X1_route_l21]; rfl
      | true =>
        have := e4 rfl
        obtain ⟨σ', z1, z2, z3, z4⟩ := ih (t + 1) σ1 (by omega) (by omega) (e2.N hN) (e2.L hl) e3 (by omega)
        exact ⟨σ', z1, fun k hk => (z2 k hk).trans (e2 k hk), z3, z4⟩
theorem p_level0 (hV : fl_V n fr to cp cs sp) (hg : ∀ a, a < n → g a = 0) {σ : fl_St} (hN : cl_N σ n fr to cp cs sp) (hl : cl_L σ n fr to (lk_w g)) :
    ∃ σ', f_X1_levelUnboundedArcs σ = some (1, σ') ∧ ∀ v, v < 8 → rv σ' 10 v = 0 := by
  obtain ⟨σ1, e1, e2, e3⟩ := p_level_z fl_N 0 σ (by omega) (by unfold fl_N; omega) (fun v hv => by omega)
  have N1 : cl_N σ1 n fr to cp cs sp := hN.mv (fun k q => e2 k (by omega))
  have l1 : cl_L σ1 n fr to (lk_w g) := hl.mv (e2 5 (by decide)) (e2 6 (by decide)) (e2 7 (by decide)) (e2 12 (by decide))
  have hs : ∀ (f i : Nat) (x2 x1 : Int32), i ≤ n → n - i < f → f_X1_levelUnboundedArcs_l39 x2 f x1 (nI i) σ1 = some (x1, σ1) := by
    intro f
    induction f with
    | zero => intro i x2 x1 h1 h2; omega
    | succ f ih =>
      intro i x2 x1 h1 h2
      by_cases c : i = n
      · subst c
        rw [f_X1_levelUnboundedArcs_l39, N1.1, if_pos (nI_le (Nat.le_refl _) (by have := hV.1; omega))]
      · have hlt : i < n := by omega
        obtain ⟨a1, a2, -⟩ := hV.2.1 i hlt
        have h0 := hg i hlt
        have d1 := e3 _ a1
        have d2 := e3 _ a2
        rw [p_level_step hV N1 l1 hlt (by omega) (fun v hv => by have := e3 v hv; omega), if_neg (by omega)]
        exact ih (i + 1) x2 x1 (by omega) (by omega)
  refine ⟨σ1, ?_, e3⟩
  have hn := hV.1
  have h39 : f_X1_levelUnboundedArcs_l39 0 fl_N 0 0 σ1 = some (0, σ1) := hs fl_N 0 0 0 (by omega) (by unfold fl_N; omega)
  have h25 : ∀ f, f_X1_levelUnboundedArcs_l25 (f + 2) 1 0 σ1 = some (0, σ1) := by
    intro f
    rw [f_X1_levelUnboundedArcs_l25, if_neg (by decide), if_neg (by decide), h39, fl_b2s, f_X1_levelUnboundedArcs_l25, if_pos rfl]
  unfold f_X1_levelUnboundedArcs
  rw [show f_X1_levelUnboundedArcs_l2 fl_N 0 σ = some σ1 from e1, fl_bs, show f_X1_levelUnboundedArcs_l25 fl_N 1 0 σ1 = some (0, σ1) from h25 1999998, fl_b2s]
  rfl
/-- what route leaves: a flow that is a cheapest one of those that send as much -/
theorem p_route (hV : fl_V n fr to cp cs sp) (hg0 : ∀ a, a < n → -50461 ≤ g a ∧ g a ≤ 50461) {σ : fl_St} (hN : cl_N σ n fr to cp cs sp) (hl : cl_L σ n fr to (lk_w g)) :
    ∃ (b : Bool) (σ' : fl_St), f_X1_route σ = some (b2i b, σ') ∧ cl_F4 σ σ' ∧ (b = false → ¬ ∃ d, fl_PotU n fr to cp g d) ∧
      (b = true → (∃ d, fl_PotU n fr to cp g d) ∧ ∃ ex0 : Nat → Int, ((∀ a, a < n → g a = 0) → ∀ v, v < 8 → ex0 v = sp v) ∧ rt_I n fr to cp g sp ex0 (rv σ' 8) (rv σ' 9) ∧ rt_E n fr to (rv σ' 8) (rv σ' 9)) := by
  have hn := hV.1
  have ha := hV.2.1
  have hg : ∀ j, j < 2 * n → -50461 ≤ lk_w g j ∧ lk_w g j ≤ 50461 := by
    intro j hj
    have := hg0 (j / 2) (by omega)
    unfold lk_w
    split <;> omega
  obtain ⟨b, σ1, e1, e2, e3, e4, e5⟩ := p_level hV hg0 hN hl
  unfold f_X1_route
  rw [e1, fl_b2s]
  cases b with
  | false =>
    exact ⟨false, σ1, rfl, fun k hk => e2 k (by omega), fun _ => e4 rfl, (fun h => by cases h)⟩
  | true =>
    rw [if_neg (by decide)]
    have hU := e3 rfl
    have N1 : cl_N σ1 n fr to cp cs sp := hN.mv (fun k q => e2 k (by omega))
    have l1 : cl_L σ1 n fr to (lk_w g) := hl.mv (e2 5 (by decide)) (e2 6 (by decide)) (e2 7 (by decide)) (e2 12 (by decide))
    obtain ⟨σ2, f1, f2, f3⟩ := p_fill hV hg0 e5 N1 l1
    have hx : ∀ a, a < n → 0 ≤ fl0 fr to cp g (rv σ1 10) a ∧ fl0 fr to cp g (rv σ1 10) a ≤ 30 := by
      intro a h
      have := (hV.2.2.1 a h).1
      unfold fl0
      split <;> omega
    obtain ⟨σ3, c1, c2, c3⟩ := p_count hV hx (N1.mv (fun k q => f2 k (by omega))) (fun a h => (f3 a h).2)
    have F3 : cl_F4 σ σ3 := fun k hk => by rw [c2 k (by omega), f2 k (by omega), e2 k (by omega)]
    have r8 : rv σ3 8 = rv σ2 8 := rv_k (c2 8 (by decide))
    have hxo : ∀ v, fl_div n fr to (xo (rv σ3 8)) v = fl_div n fr to (fl0 fr to cp g (rv σ1 10)) v := fun v => fl_div_congr (fun a h => by show rv σ3 8 (2 * a + 1) = _; rw [r8]; exact (f3 a h).2) v
    have hE : ∀ v, v < 8 → rv σ3 9 v = sp v - fl_div n fr to (xo (rv σ3 8)) v := fun v hv => by rw [c3 v hv, hxo]
    have hpos : fl_pos (rv σ3 9) ≤ 840 := by
      have := fl_pos_start hn ha (fun v hv => (hV.2.2.2 v hv).2) hx
      have h2 : fl_pos (rv σ3 9) = fl_pos (fun v => sp v - fl_div n fr to (fl0 fr to cp g (rv σ1 10)) v) := fl_S_congr (fun v hv => by rw [c3 v hv])
      omega
    have hR : rm_I n cp (rv σ3 8) := by
      intro a h
      rw [r8, (f3 a h).1, (f3 a h).2]
      have h1 := (hV.2.2.1 a h).1
      have h2 := hx a h
      refine ⟨?_, h2.1, by omega⟩
      unfold cU fl0
      split <;> split <;> omega
    have hp : ∃ pt, bf_Pot (2 * n) (fun j => 0 < rv σ3 8 j) (lk_tl fr to) (lk_hd fr to) (lk_w g) pt := by
      refine ⟨rv σ1 10, fun j hj ho => ?_⟩
      have ho : 0 < rv σ3 8 j := ho
      rw [r8] at ho
      by_cases e : j % 2 = 0
      · obtain ⟨a, rfl⟩ : ∃ a, j = 2 * a := ⟨j / 2, by omega⟩
        have h : a < n := by omega
        rw [lk_t0, lk_h0, lk_w0]
        rw [(f3 a h).1] at ho
        by_cases c : cp a = -1
        · exact hU a h c
        · by_cases c5 : rv σ1 10 (fr a) + g a < rv σ1 10 (to a)
          · unfold cU fl0 at ho
            rw [if_neg c, if_pos ⟨c, c5⟩] at ho
            omega
          · omega
      · obtain ⟨a, rfl⟩ : ∃ a, j = 2 * a + 1 := ⟨j / 2, by omega⟩
        have h : a < n := by omega
        rw [lk_t1, lk_h1, lk_w1]
        rw [(f3 a h).2] at ho
        unfold fl0 at ho
        split at ho
        · omega
        · omega
    have hI : rt_I n fr to cp g sp (rv σ3 9) (rv σ3 8) (rv σ3 9) := by
      refine ⟨hR, hE, hp, fun v hv => ⟨fun h => ⟨h, Int.le_refl _⟩, fun h => ⟨Int.le_refl _, h⟩⟩, fun a h c => ?_, hpos⟩
      have : rv σ3 8 (2 * a + 1) = 0 := by
        rw [r8, (f3 a h).2]
        unfold fl0
        rw [if_neg (fun q => q.1 c)]
      omega
    have hx0 : ∀ v, v < 8 → -1000 ≤ rv σ3 9 v ∧ rv σ3 9 v ≤ 1000 := by
      intro v hv
      rw [c3 v hv]
      have h1 := fl_div_b (fr := fr) (to := to) (x := fl0 fr to cp g (rv σ1 10)) (K := 30) (by decide) v n hx
      have h2 := hV.2.2.2 v hv
      omega
    obtain ⟨σ4, z1, z2, z3, z4⟩ := p_route_in hV hg hx0 fl_N 0 σ3 (by omega) (by unfold fl_N; omega) (F3.N hN) (F3.L hl) hI (by omega)
    rw [f1, fl_bs, c1, fl_bs, show f_X1_route_l21 fl_N 1 0 σ3 = some σ4 from z1, fl_bs]
    refine ⟨true, σ4, rfl, fun k hk => (z2 k hk).trans (F3 k hk), (fun h => by cases h), fun _ => ⟨⟨_, hU⟩, rv σ3 9, fun hz v hv => ?_, z3, z4⟩⟩
    rw [c3 v hv]
    have hz0 : ∀ v, v < 8 → rv σ1 10 v = 0 := by
      obtain ⟨σ9, q1, q2⟩ := p_level0 hV hz hN hl
      rw [e1] at q1
      obtain ⟨-, rfl⟩ := fl_s2 q1
      exact q2
    have h0 : fl_div n fr to (fl0 fr to cp g (rv σ1 10)) v = fl_div n fr to (fun _ => 0) v := fl_div_congr (fun a h => by
      unfold fl0
      obtain ⟨a1, a2, -⟩ := ha a h
      have d1 := hz0 _ a1
      have d2 := hz0 _ a2
      have d3 := hz a h
      rw [if_neg (by omega)]) v
    rw [h0]
    have h1 : fl_div n fr to (fun _ => 0) v = 0 := by
      unfold fl_div
      rw [fl_S_congr (g := fun _ => 0) (fun a _ => by simp), fl_S_zero]
    omega
end ROUTE
