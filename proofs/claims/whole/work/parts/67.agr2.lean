/-! pure rows: class and reference agree: marginal, add, change, supply, clear, arcs -/
theorem i10 : ¬ (1 : Int32) = 0 := by decide
theorem sp1_up (sp : Nat → Int) {u v : Nat} (h : u ≠ v) : fl_up (fl_up sp u (sp u + 1)) v (fl_up sp u (sp u + 1) v - 1) = sp1 sp u v := by
  funext q
  show _ = sp q + (if q = u then 1 else 0) - (if q = v then 1 else 0)
  by_cases e1 : q = v
  · subst e1
    rw [fl_up_s, fl_up_n _ _ (fun e => h e.symm), if_neg (fun e => h e.symm), if_pos rfl]
    omega
  · rw [fl_up_n _ _ e1, if_neg e1]
    by_cases e2 : q = u
    · subst e2
      rw [fl_up_s, if_pos rfl]
      omega
    · rw [fl_up_n _ _ e2, if_neg e2]
      omega
theorem sp1_dn (sp : Nat → Int) {u v : Nat} (h : u ≠ v) : fl_up (fl_up (sp1 sp u v) u (sp1 sp u v u - 1)) v (fl_up (sp1 sp u v) u (sp1 sp u v u - 1) v + 1) = sp := by
  have e1 : sp1 sp u v u = sp u + 1 := by
    show sp u + (if u = u then 1 else 0) - (if u = v then 1 else 0) = _
    rw [if_pos rfl, if_neg h]
    omega
  have e2 : sp1 sp u v v = sp v - 1 := by
    show sp v + (if v = u then 1 else 0) - (if v = v then 1 else 0) = _
    rw [if_pos rfl, if_neg (fun e => h e.symm)]
    omega
  funext q
  by_cases c1 : q = v
  · subst c1
    rw [fl_up_s, fl_up_n _ _ (fun e => h e.symm), e2]
    omega
  · rw [fl_up_n _ _ c1]
    by_cases c2 : q = u
    · subst c2
      rw [fl_up_s, e1]
      omega
    · rw [fl_up_n _ _ c2]
      show sp q + (if q = u then 1 else 0) - (if q = v then 1 else 0) = _
      rw [if_neg c1, if_neg c2]
      omega
theorem sp1_id (sp : Nat → Int) (u : Nat) : sp1 sp u u = sp := by
  funext q
  show sp q + (if q = u then 1 else 0) - (if q = u then 1 else 0) = _
  omega
section MAR
variable {n : Nat} {fr to : Nat → Nat} {cp cs sp : Nat → Int}
/-- the reference's second solving -/
theorem p_margM (hA : ag_V n fr to cp cs sp) {u v : Nat} (hu : u < 8) (hv : v < 8) (huv : u ≠ v) (hsm : (∃ d, fl_PotU n fr to cp cs d) → (∃ y, fl_Fs n fr to cp (sp1 sp u v) y) → ∃ x, fl_Op n fr to cp cs (sp1 sp u v) x ∧ ∀ a, a < n → 0 ≤ x a ∧ x a ≤ 841) (hP : ∃ d, fl_PotU n fr to cp cs d) {τ : fl_St} (hM : md_N τ n fr to cp cs sp) (hS : so_I τ n fr to cp cs sp) {r : Int32}
    (h1 : (∃ y, fl_Op n fr to cp cs (sp1 sp u v) y ∧ fl_cost n cs y = fl_cost n cs (rv τ 5) + r.toInt) ∨ (r = -1000004 ∧ ¬ ∃ y, fl_Fs n fr to cp (sp1 sp u v) y)) :
    ∃ τ', ((fl_rd τ 4 8 (nI u)).bind fun v12 => (fl_wr τ 4 8 (nI u) (v12 + (1))).bind fun σ15 => (fl_rd σ15 4 8 (nI v)).bind fun v18 => (fl_wr σ15 4 8 (nI v) (v18 - (1))).bind fun σ21 => fl_b2 (f_X3_solve  σ21) fun r25 σ26 => (fl_rd σ26 4 8 (nI u)).bind fun v27 => (fl_wr σ26 4 8 (nI u) (v27 - (1))).bind fun σ30 => (fl_rd σ30 4 8 (nI v)).bind fun v33 => (fl_wr σ30 4 8 (nI v) (v33 + (1))).bind fun σ36 => (if 0 ≤ r25 then (some (((σ36 13 2) - (τ 13 2)))) else (some ((-1000004)))).bind fun (t40 : Int32) => some (t40, σ36)) = some (r, τ') ∧ md_N τ' n fr to cp cs sp := by
  have z1 : (1 : Int32).toInt = 1 := by decide
  have hsp := hA.2.2.2
  have su := hM.2.2 u hu
  have b1 := hsp u hu
  have b2 := hsp v hv
  rw [fl_rd_n hu (by omega), fl_bs, fl_wr_n hu (by omega), fl_bs, fl_rd_n hv (by omega), fl_bs, fl_wr_n hv (by omega), fl_bs]
  have M1 := hM.us u (x := τ 4 u + 1) (z := sp u + 1) (by rw [i_add (by rw [su, z1]; omega) (by rw [su, z1]; omega), su, z1])
  have sv := M1.2.2 v hv
  have b3 : fl_up sp u (sp u + 1) v = sp v := fl_up_n _ _ (fun e => huv e.symm)
  have M2 := M1.us v (x := st τ 4 u (τ 4 u + 1) 4 v - 1) (z := fl_up sp u (sp u + 1) v - 1) (by rw [i_sub (by rw [sv, z1]; omega) (by rw [sv, z1]; omega), sv, z1])
  rw [sp1_up sp huv] at M2
  generalize st (st τ 4 u (τ 4 u + 1)) 4 v (st τ 4 u (τ 4 u + 1) 4 v - 1) = τ2 at M2 ⊢
  have hsp1 : ∀ q, q < 8 → -31 ≤ sp1 sp u v q ∧ sp1 sp u v q ≤ 31 := fun q hq => by
    have := hsp q hq
    show -31 ≤ sp q + (if q = u then 1 else 0) - (if q = v then 1 else 0) ∧ sp q + (if q = u then 1 else 0) - (if q = v then 1 else 0) ≤ 31
    split <;> split <;> omega
  obtain ⟨q, τ3, c1, M3, c3⟩ := so_ot ⟨hA.H.1, hsp1, hA.H.2.2.1, hsm⟩ M2
  rw [c1, fl_b2s, fl_rd_n hu (by omega), fl_bs, fl_wr_n hu (by omega), fl_bs, fl_rd_n hv (by omega), fl_bs, fl_wr_n hv (by omega), fl_bs]
  have su3 := M3.2.2 u hu
  have b4 := hsp1 u hu
  have M4 := M3.us u (x := τ3 4 u - 1) (z := sp1 sp u v u - 1) (by rw [i_sub (by rw [su3, z1]; omega) (by rw [su3, z1]; omega), su3, z1])
  have sv4 := M4.2.2 v hv
  have b5 : fl_up (sp1 sp u v) u (sp1 sp u v u - 1) v = sp1 sp u v v := fl_up_n _ _ (fun e => huv e.symm)
  have b6 := hsp1 v hv
  have M5 := M4.us v (x := st τ3 4 u (τ3 4 u - 1) 4 v + 1) (z := fl_up (sp1 sp u v) u (sp1 sp u v u - 1) v + 1) (by rw [i_add (by rw [sv4, z1, b5]; omega) (by rw [sv4, z1, b5]; omega), sv4, z1])
  rw [sp1_dn sp huv] at M5
  have e13 : st (st τ3 4 u (τ3 4 u - 1)) 4 v (st τ3 4 u (τ3 4 u - 1) 4 v + 1) 13 2 = τ3 13 2 := by rw [st_k _ _ _ (by decide), st_k _ _ _ (by decide)]
  rw [e13]
  generalize st (st τ3 4 u (τ3 4 u - 1)) 4 v (st τ3 4 u (τ3 4 u - 1) 4 v + 1) = τ5 at M5 ⊢
  refine ⟨τ5, ?_, M5⟩
  rcases c3 with ⟨rfl, h⟩ | ⟨rfl, h, h2⟩ | ⟨h, h2, rfl, h3⟩
  · rw [if_neg (by decide), fl_bs]
    rcases h1 with ⟨y, y1, -⟩ | ⟨rfl, -⟩
    · exact absurd ⟨y, y1.1⟩ h
    · rfl
  · exact absurd hP h2
  · rw [if_pos (by decide), fl_bs]
    rcases h1 with ⟨y, y1, y2⟩ | ⟨-, hno⟩
    · have e := ag_opc y1 h3.1
      obtain ⟨-, -, -, t1, t2, t3⟩ := h3
      obtain ⟨-, -, -, t4, t5, t6⟩ := hS
      have : τ3 13 2 - τ 13 2 = r := by
        rw [i_eq, i_sub (by rw [t1, t4]; omega) (by rw [t1, t4]; omega), t1, t4]
        omega
      rw [this]
    · exact absurd h2 hno
end MAR
theorem ag_marginal (x y : Int32) {σ τ : fl_St} (h : ag σ τ) : ∃ r σ' τ', f_X2_marginal x y σ = some (r, σ') ∧ f_X3_marginal x y τ = some (r, τ') ∧ ag σ' τ' := by
  obtain ⟨n, fr, to, cp, cs, sp, hA, hN, hM⟩ := id h
  unfold f_X2_marginal f_X3_marginal
  rcases ag_node x σ τ with ⟨c1, c2⟩ | ⟨u, hu, rfl, c1, c2⟩
  · exact ⟨-1000000, σ, τ, by rw [c1, fl_bs, if_pos rfl], by rw [c2, fl_bs, if_pos rfl], h⟩
  rcases ag_node y σ τ with ⟨d1, d2⟩ | ⟨v, hv, rfl, d1, d2⟩
  · exact ⟨-1000000, σ, τ, by rw [c1, fl_bs, if_neg i10, d1, fl_bs, if_pos rfl], by rw [c2, fl_bs, if_neg i10, d2, fl_bs, if_pos rfl], h⟩
  rw [c1, fl_bs, if_neg i10, d1, fl_bs, if_neg i10, c2, fl_bs, if_neg i10, d2, fl_bs, if_neg i10]
  obtain ⟨r, σ', a1, a2, a3⟩ := st_ot hA.V hN
  obtain ⟨q, τ', b1, b2, b3⟩ := so_ot hA.H hM
  have e := a3.eq b3 (fun _ _ h1 h2 => h1.1.trans h2.1.symm)
  subst e
  rw [a1, fl_b2s, b1, fl_b2s]
  rcases a3 with ⟨rfl, -⟩ | ⟨rfl, -⟩ | ⟨hP, hF, rfl, hS⟩
  · exact ⟨_, σ', τ', by rw [if_neg (by decide)], by rw [if_pos (by decide)], n, fr, to, cp, cs, sp, hA, a2, b2⟩
  · exact ⟨_, σ', τ', by rw [if_neg (by decide)], by rw [if_pos (by decide)], n, fr, to, cp, cs, sp, hA, a2, b2⟩
  rw [if_pos rfl, if_neg (by decide)]
  have hR : so_I τ' n fr to cp cs sp := by
    rcases b3 with ⟨h, -⟩ | ⟨h, -⟩ | ⟨-, -, -, h⟩
    · exact absurd h (by decide)
    · exact absurd h (by decide)
    · exact h
  obtain ⟨b, σ2, e1, e2, e3, e4⟩ := p_marg hA.V hS hu hv
  obtain ⟨-, ⟨ex0, hI⟩, h0⟩ := hS
  have hopx := rt_flow hA.V hI h0
  have hN2 : cl_N σ2 n fr to cp cs sp := a2.mv (fun k hk => e2 k (by omega) (by omega))
  have hcost : fl_cost n cs (xo (rv σ' 8)) = fl_cost n cs (rv τ' 5) := ag_opc hopx hR.1
  rw [e1, fl_b2s]
  have hcl : ∃ r : Int32, ((if b2i b = 0 then (some (-1000004 : Int32)) else ((f_X1_distanceTo (nI v) σ2).bind fun r19 => some r19)).bind fun (t15 : Int32) => some (t15, σ2)) = some (r, σ2) ∧
      ((∃ y, fl_Op n fr to cp cs (sp1 sp u v) y ∧ fl_cost n cs y = fl_cost n cs (rv τ' 5) + r.toInt) ∨ (r = -1000004 ∧ ¬ ∃ y, fl_Fs n fr to cp (sp1 sp u v) y)) := by
    cases b with
    | true =>
      obtain ⟨y, y1, y2, -⟩ := e3 rfl
      refine ⟨σ2 10 v, ?_, Or.inl ⟨y, y1, by rw [← hcost]; exact y2⟩⟩
      unfold f_X1_distanceTo
      rw [if_neg (by decide), fl_rd_n hv (by omega)]
      rfl
    | false => exact ⟨-1000004, by rw [if_pos (by decide)]; rfl, Or.inr ⟨rfl, e4 rfl⟩⟩
  obtain ⟨r, f1, f2⟩ := hcl
  by_cases huv : u = v
  · subst huv
    rw [if_pos rfl]
    rw [sp1_id] at f2
    rcases f2 with ⟨y, y1, y2⟩ | ⟨-, hno⟩
    · have e := ag_opc y1 hR.1
      have : r = 0 := by
        rw [i_eq, show (0 : Int32).toInt = 0 by decide]
        omega
      subst this
      exact ⟨0, σ2, τ', f1, rfl, n, fr, to, cp, cs, sp, hA, hN2, b2⟩
    · exact absurd hF hno
  · rw [if_neg (c := nI u = nI v) (fun e => huv (by
      have := congrArg Int32.toInt e
      rw [nI_t (by omega), nI_t (by omega)] at this
      omega))]
    obtain ⟨τ2, g1, g2⟩ := p_margM hA hu hv huv (fun _ hF1 => by
      cases b with
      | true =>
        obtain ⟨y, y1, -, y2, -⟩ := e3 rfl
        exact ⟨y, y1, y2⟩
      | false => exact absurd hF1 (e4 rfl)) hP b2 hR f2
    exact ⟨r, σ2, τ2, f1, g1, n, fr, to, cp, cs, sp, hA, hN2, g2⟩
theorem ag_arcs {σ τ : fl_St} (h : ag σ τ) : ∃ r, f_X2_arcs σ = some r ∧ f_X3_arcs τ = some r := by
  obtain ⟨n, fr, to, cp, cs, sp, hA, hN, hM⟩ := h
  exact ⟨nI n, by unfold f_X2_arcs; rw [hN.1], by unfold f_X3_arcs; rw [hM.1]⟩
theorem ag_supply (x y : Int32) {σ τ : fl_St} (h : ag σ τ) : ∃ r σ' τ', f_X2_supply x y σ = some (r, σ') ∧ f_X3_supply x y τ = some (r, τ') ∧ ag σ' τ' := by
  obtain ⟨n, fr, to, cp, cs, sp, hA, hN, hM⟩ := id h
  unfold f_X2_supply f_X3_supply
  rcases ag_node x σ τ with ⟨c1, c2⟩ | ⟨u, hu, rfl, c1, c2⟩
  · exact ⟨0, σ, τ, by rw [c1, fl_bs, if_pos rfl], by rw [c2, fl_bs, if_pos rfl], h⟩
  have z1 : (30 : Int32).toInt = 30 := by decide
  have z2 : (-30 : Int32).toInt = -30 := by decide
  rw [c1, fl_bs, if_neg i10, c2, fl_bs, if_neg i10, in_v, z1, z2, fl_bs]
  by_cases c3 : y < -30
  · rw [if_pos c3]
    rw [i_lt, z2] at c3
    rw [if_neg (c := (-30 : Int) ≤ y.toInt ∧ y.toInt ≤ 30) (by omega), if_pos rfl]
    exact ⟨0, σ, τ, rfl, rfl, h⟩
  · rw [if_neg c3]
    rw [i_lt, z2] at c3
    by_cases c4 : y ≤ 30
    · rw [if_pos c4]
      rw [i_le, z1] at c4
      rw [if_pos (c := (-30 : Int) ≤ y.toInt ∧ y.toInt ≤ 30) (by omega), if_neg i10, fl_wr_n hu (by omega), fl_wr_n hu (by omega)]
      refine ⟨1, _, _, rfl, rfl, n, fr, to, cp, cs, fl_up sp u y.toInt, ⟨hA.1, hA.2.1, hA.2.2.1, fun v hv => ?_⟩, hN.us u rfl, hM.us u rfl⟩
      have := hA.2.2.2 v hv
      by_cases e : v = u
      · rw [e, fl_up_s]; omega
      · rw [fl_up_n _ _ e]; exact this
    · rw [if_neg c4]
      rw [i_le, z1] at c4
      rw [if_neg (c := (-30 : Int) ≤ y.toInt ∧ y.toInt ≤ 30) (by omega), if_pos rfl]
      exact ⟨0, σ, τ, rfl, rfl, h⟩
theorem p_clr2 : ∀ (F i : Nat) (σ : fl_St), i ≤ 8 → 8 - i < F → (∀ v, v < i → (σ 4 v).toInt = 0) → ∃ σ', f_X2_clear_l10 F (nI i) σ = some σ' ∧ (∀ k, k ≠ 4 → σ' k = σ k) ∧ ∀ v, v < 8 → (σ' 4 v).toInt = 0 := by
  intro F
  induction F with
  | zero => intro i σ h1 h2; omega
  | succ F ih =>
    intro i σ h1 h2 hz
    by_cases c : i = 8
    · subst c
      exact ⟨σ, by rw [f_X2_clear_l10]; rfl, fun _ _ => rfl, hz⟩
    · rw [f_X2_clear_l10, if_neg (nI_8 (by omega)), fl_wr_n (by omega) (by omega), fl_bs, nI_1]
      obtain ⟨σ', e1, e2, e3⟩ := ih (i + 1) (st σ 4 i 0) (by omega) (by omega) (fun v hv => by
        by_cases e : v = i
        · rw [e, st_s]; decide
        · rw [st_j _ _ _ e]; exact hz v (by omega))
      exact ⟨σ', e1, fun k hk => (e2 k hk).trans (st_k _ _ _ hk), e3⟩
theorem p_clr3 : ∀ (F i : Nat) (σ : fl_St), i ≤ 8 → 8 - i < F → (∀ v, v < i → (σ 4 v).toInt = 0) → ∃ σ', f_X3_clear_l7 F (nI i) σ = some σ' ∧ (∀ k, k ≠ 4 → σ' k = σ k) ∧ ∀ v, v < 8 → (σ' 4 v).toInt = 0 := by
  intro F
  induction F with
  | zero => intro i σ h1 h2; omega
  | succ F ih =>
    intro i σ h1 h2 hz
    by_cases c : i = 8
    · subst c
      exact ⟨σ, by rw [f_X3_clear_l7]; rfl, fun _ _ => rfl, hz⟩
    · rw [f_X3_clear_l7, if_neg (nI_8 (by omega)), fl_wr_n (by omega) (by omega), fl_bs, nI_1]
      obtain ⟨σ', e1, e2, e3⟩ := ih (i + 1) (st σ 4 i 0) (by omega) (by omega) (fun v hv => by
        by_cases e : v = i
        · rw [e, st_s]; decide
        · rw [st_j _ _ _ e]; exact hz v (by omega))
      exact ⟨σ', e1, fun k hk => (e2 k hk).trans (st_k _ _ _ hk), e3⟩
/-- the empty network -/
theorem ag_nil {σ τ : fl_St} (h1 : σ 12 0 = 0) (h2 : ∀ v, v < 8 → (σ 4 v).toInt = 0) (h3 : τ 13 0 = 0) (h4 : ∀ v, v < 8 → (τ 4 v).toInt = 0) : ag σ τ :=
  ⟨0, fun _ => 0, fun _ => 0, fun _ => 0, fun _ => 0, fun _ => 0, ⟨by omega, fun a ha => by omega, fun a ha => by omega, fun v hv => ⟨by show (-30 : Int) ≤ 0; decide, by show (0 : Int) ≤ 30; decide⟩⟩, ⟨h1, fun a ha => by omega, h2⟩, h3, fun a ha => by omega, h4⟩
theorem ag_clear (σ τ : fl_St) : ∃ σ' τ', f_X2_clear σ = some σ' ∧ f_X3_clear τ = some τ' ∧ ag σ' τ' := by
  obtain ⟨σ', a1, a2, a3⟩ := p_clr2 fl_N 0 (st σ 12 0 0) (by omega) (by unfold fl_N; omega) (fun v hv => by omega)
  obtain ⟨τ', b1, b2, b3⟩ := p_clr3 fl_N 0 (st τ 13 0 0) (by omega) (by unfold fl_N; omega) (fun v hv => by omega)
  refine ⟨σ', τ', ?_, ?_, ag_nil (by rw [a2 12 (by decide), st_s]) a3 (by rw [b2 13 (by decide), st_s]) b3⟩
  · unfold f_X2_clear
    rw [fl_bs, show f_X2_clear_l10 fl_N 0 (st σ 12 0 0) = some σ' from a1, fl_bs]
  · unfold f_X3_clear
    rw [fl_bs, show f_X3_clear_l7 fl_N 0 (st τ 13 0 0) = some τ' from b1, fl_bs]
theorem ag_data (x y : Int32) (σ τ : fl_St) : (f_X2_isArcData x y σ = some 0 ∧ (f_X3_in x (-1) 30 τ = some 0 ∨ (f_X3_in x (-1) 30 τ = some 1 ∧ f_X3_in y (-20) 20 τ = some 0))) ∨ (f_X2_isArcData x y σ = some 1 ∧ f_X3_in x (-1) 30 τ = some 1 ∧ f_X3_in y (-20) 20 τ = some 1 ∧ (-1 ≤ x.toInt ∧ x.toInt ≤ 30) ∧ -20 ≤ y.toInt ∧ y.toInt ≤ 20) := by
  have z1 : (-1 : Int32).toInt = -1 := by decide
  have z2 : (30 : Int32).toInt = 30 := by decide
  have z3 : (-20 : Int32).toInt = -20 := by decide
  have z4 : (20 : Int32).toInt = 20 := by decide
  rw [in_v, in_v, z1, z2, z3, z4]
  unfold f_X2_isArcData
  by_cases c1 : x < -1
  · rw [if_pos c1, fl_bs, if_neg (by decide)]
    rw [i_lt, z1] at c1
    exact Or.inl ⟨rfl, Or.inl (by rw [if_neg (by omega)])⟩
  rw [if_neg c1]
  rw [i_lt, z1] at c1
  by_cases c2 : (30 : Int32) < x
  · rw [if_pos c2, fl_bs, if_neg (by decide)]
    rw [i_lt, z2] at c2
    exact Or.inl ⟨rfl, Or.inl (by rw [if_neg (by omega)])⟩
  rw [if_neg c2]
  rw [i_lt, z2] at c2
  by_cases c3 : y < -20
  · rw [if_pos c3, fl_bs, if_neg (by decide)]
    rw [i_lt, z3] at c3
    exact Or.inl ⟨rfl, Or.inr ⟨by rw [if_pos (by omega)], by rw [if_neg (by omega)]⟩⟩
  rw [if_neg c3]
  rw [i_lt, z3] at c3
  by_cases c4 : (20 : Int32) < y
  · rw [if_pos c4, fl_bs, if_neg (by decide)]
    rw [i_lt, z4] at c4
    exact Or.inl ⟨rfl, Or.inr ⟨by rw [if_pos (by omega)], by rw [if_neg (by omega)]⟩⟩
  rw [if_neg c4, fl_bs, if_neg (by decide)]
  rw [i_lt, z4] at c4
  exact Or.inr ⟨rfl, by rw [if_pos (by omega)], by rw [if_pos (by omega)], by omega, by omega⟩
theorem cM_up {x : Int32} (hx : -1 ≤ x.toInt) (cp : Nat → Int) (a : Nat) : ∃ t : Int32, (if 0 ≤ x then some x else some (1000000 : Int32)) = some t ∧ t.toInt = cM (fl_up cp a x.toInt) a := by
  have z0 : (0 : Int32).toInt = 0 := by decide
  unfold cM
  rw [fl_up_s]
  by_cases c : 0 ≤ x
  · rw [if_pos c]
    rw [i_le, z0] at c
    rw [if_neg (by omega)]
    exact ⟨x, rfl, rfl⟩
  · rw [if_neg c]
    rw [i_le, z0] at c
    rw [if_pos (by omega)]
    exact ⟨_, rfl, by decide⟩
theorem cM_n {cp : Nat → Int} {a b : Nat} {z : Int} (h : b ≠ a) : cM (fl_up cp a z) b = cM cp b := by
  unfold cM
  rw [fl_up_n _ _ h]
theorem ag_change (x y z : Int32) {σ τ : fl_St} (h : ag σ τ) : ∃ r σ' τ', f_X2_change x y z σ = some (r, σ') ∧ f_X3_change x y z τ = some (r, τ') ∧ ag σ' τ' := by
  obtain ⟨n, fr, to, cp, cs, sp, hA, hN, hM⟩ := id h
  have hn := hA.1
  unfold f_X2_change f_X3_change
  rcases ag_arc hA.1 x hN hM with ⟨c1, c2⟩ | ⟨a, ha, rfl, c1, c2⟩
  · exact ⟨0, σ, τ, by rw [c1, fl_bs, if_pos rfl], by rw [c2, fl_bs, if_pos rfl], h⟩
  rw [c1, fl_bs, if_neg i10, c2, fl_bs, if_neg i10]
  rcases ag_data y z σ τ with ⟨d1, d2 | ⟨d2, d3⟩⟩ | ⟨d1, d2, d3, d4, d5⟩
  · exact ⟨0, σ, τ, by rw [d1, fl_bs, if_pos rfl], by rw [d2, fl_bs, if_pos rfl], h⟩
  · exact ⟨0, σ, τ, by rw [d1, fl_bs, if_pos rfl], by rw [d2, fl_bs, if_neg i10, d3, fl_bs, if_pos rfl], h⟩
  · obtain ⟨t, e1, e2⟩ := cM_up (x := y) d4.1 cp a
    rw [d1, fl_bs, if_neg i10, d2, fl_bs, if_neg i10, d3, fl_bs, if_neg i10, e1, fl_bs, fl_wr_n (by omega) (by omega), fl_bs, fl_wr_n (by omega) (by omega), fl_bs, fl_wr_n (by omega) (by omega), fl_bs, fl_wr_n (by omega) (by omega), fl_bs]
    refine ⟨1, _, _, rfl, rfl, n, fr, to, fl_up cp a y.toInt, fl_up cs a z.toInt, sp, ⟨hA.1, hA.2.1, fun b hb => ?_, hA.2.2.2⟩, ⟨by simp [st_k]; exact hN.1, fun b hb => ?_, fun v hv => by simp [st_k]; exact hN.2.2 v hv⟩, by simp [st_k]; exact hM.1, fun b hb => ?_, fun v hv => by simp [st_k]; exact hM.2.2 v hv⟩
    · have := hA.2.2.1 b hb
      by_cases e : b = a
      · rw [e, fl_up_s, fl_up_s]; exact ⟨d4, d5⟩
      · rw [fl_up_n _ _ e, fl_up_n _ _ e]; exact this
    · obtain ⟨q0, q1, q2, q3⟩ := hN.2.1 b hb
      refine ⟨by simp [st_k]; exact q0, by simp [st_k]; exact q1, ?_, ?_⟩
      · rw [st_k _ _ _ (by decide)]
        by_cases e : b = a
        · rw [e, fl_up_s, st_s]
        · rw [fl_up_n _ _ e, st_j _ _ _ e]; exact q2
      · by_cases e : b = a
        · rw [e, fl_up_s, st_s]
        · rw [fl_up_n _ _ e, st_j _ _ _ e, st_k _ _ _ (by decide)]; exact q3
    · obtain ⟨q0, q1, q2, q3⟩ := hM.2.1 b hb
      refine ⟨by simp [st_k]; exact q0, by simp [st_k]; exact q1, ?_, ?_⟩
      · rw [st_k _ _ _ (by decide)]
        by_cases e : b = a
        · rw [e, st_s]; exact e2
        · rw [cM_n e, st_j _ _ _ e]; exact q2
      · by_cases e : b = a
        · rw [e, fl_up_s, st_s]
        · rw [fl_up_n _ _ e, st_j _ _ _ e, st_k _ _ _ (by decide)]; exact q3
theorem ag_add (x1 x2 x3 x4 : Int32) {σ τ : fl_St} (h : ag σ τ) : ∃ r σ' τ', f_X2_add x1 x2 x3 x4 σ = some (r, σ') ∧ f_X3_add x1 x2 x3 x4 τ = some (r, τ') ∧ ag σ' τ' := by
  obtain ⟨n, fr, to, cp, cs, sp, hA, hN, hM⟩ := id h
  have hn := hA.1
  unfold f_X2_add f_X3_add
  rcases ag_node x1 σ τ with ⟨c1, c2⟩ | ⟨u, hu, rfl, c1, c2⟩
  · exact ⟨-1000000, σ, τ, by rw [c1, fl_bs, if_pos rfl], by rw [c2, fl_bs, if_pos rfl], h⟩
  rw [c1, fl_bs, if_neg i10, c2, fl_bs, if_neg i10]
  rcases ag_node x2 σ τ with ⟨c1, c2⟩ | ⟨v, hv, rfl, c1, c2⟩
  · exact ⟨-1000000, σ, τ, by rw [c1, fl_bs, if_pos rfl], by rw [c2, fl_bs, if_pos rfl], h⟩
  rw [c1, fl_bs, if_neg i10, c2, fl_bs, if_neg i10]
  by_cases huv : nI u = nI v
  · exact ⟨-1000000, σ, τ, by rw [if_pos huv], by rw [if_pos huv], h⟩
  rw [if_neg huv, if_neg huv]
  rcases ag_data x3 x4 σ τ with ⟨d1, d2 | ⟨d2, d3⟩⟩ | ⟨d1, d2, d3, d4, d5⟩
  · exact ⟨-1000000, σ, τ, by rw [d1, fl_bs, if_pos rfl], by rw [d2, fl_bs, if_pos rfl], h⟩
  · exact ⟨-1000000, σ, τ, by rw [d1, fl_bs, if_pos rfl], by rw [d2, fl_bs, if_neg i10, d3, fl_bs, if_pos rfl], h⟩
  rw [d1, fl_bs, if_neg i10, d2, fl_bs, if_neg i10, d3, fl_bs, if_neg i10, hN.1, hM.1]
  have z20 : (20 : Int32).toInt = 20 := by decide
  have en : (nI n).toInt = (n : Int) := nI_t (by omega)
  by_cases c : n < 20
  · obtain ⟨t, e1, e2⟩ := cM_up (x := x3) d4.1 cp n
    have huv' : u ≠ v := fun e => huv (by rw [e])
    rw [if_pos (by rw [i_lt, en, z20]; omega), if_neg (by rw [i_eq, en, z20]; omega), e1]
    have m1 : ∀ (k j : Nat) (x : Int32) (ρ : fl_St), k ≠ 13 → st ρ k j x 13 = ρ 13 := fun k j x ρ hk => st_k _ _ _ (fun e => hk e.symm)
    have m2 : ∀ (k j : Nat) (x : Int32) (ρ : fl_St), k ≠ 12 → st ρ k j x 12 = ρ 12 := fun k j x ρ hk => st_k _ _ _ (fun e => hk e.symm)
    rw [fl_wr_n c (by omega), fl_bs, fl_wr_n c (by omega), fl_bs, fl_wr_n c (by omega), fl_bs, fl_wr_n c (by omega), fl_bs, fl_bs]
    rw [m2 _ _ _ _ (by decide), m2 _ _ _ _ (by decide), m2 _ _ _ _ (by decide), m2 _ _ _ _ (by decide), hN.1, nI_1]
    rw [fl_wr_n (show n < 36 by omega) (by omega), fl_bs, m1 _ _ _ _ (by decide), hM.1, fl_wr_n (show n < 36 by omega) (by omega), fl_bs, fl_bs, m1 _ _ _ _ (by decide), m1 _ _ _ _ (by decide), hM.1, fl_wr_n (show n < 36 by omega) (by omega), fl_bs, m1 _ _ _ _ (by decide), m1 _ _ _ _ (by decide), m1 _ _ _ _ (by decide), hM.1, fl_wr_n (show n < 36 by omega) (by omega), fl_bs, fl_bs, st_s, m1 _ _ _ _ (by decide), m1 _ _ _ _ (by decide), m1 _ _ _ _ (by decide), m1 _ _ _ _ (by decide), hM.1, nI_1]
    have z1 : (1 : Int32).toInt = 1 := by decide
    have em : nI (n + 1) - 1 = nI n := by
      rw [i_eq, i_sub (by rw [nI_t (by omega), z1]; omega) (by rw [nI_t (by omega), z1]; omega), nI_t (by omega), nI_t (by omega), z1]
      omega
    rw [em]
    refine ⟨nI n, _, _, rfl, rfl, n + 1, (fun k => if k = n then u else fr k), (fun k => if k = n then v else to k), fl_up cp n x3.toInt, fl_up cs n x4.toInt, sp, ⟨by omega, fun b hb => ?_, fun b hb => ?_, hA.2.2.2⟩, ⟨st_s _ _ _ _, fun b hb => ?_, fun v hv => by simp [st_k]; exact hN.2.2 v hv⟩, st_s _ _ _ _, fun b hb => ?_, fun v hv => by simp [st_k]; exact hM.2.2 v hv⟩
    · show (if b = n then u else fr b) < 8 ∧ (if b = n then v else to b) < 8 ∧ (if b = n then u else fr b) ≠ (if b = n then v else to b)
      by_cases e : b = n
      · rw [if_pos e, if_pos e]; exact ⟨hu, hv, huv'⟩
      · rw [if_neg e, if_neg e]; exact hA.2.1 b (by omega)
    · by_cases e : b = n
      · rw [e, fl_up_s, fl_up_s]; exact ⟨d4, d5⟩
      · rw [fl_up_n _ _ e, fl_up_n _ _ e]; exact hA.2.2.1 b (by omega)
    · show _ = nI (if b = n then u else fr b) ∧ _ = nI (if b = n then v else to b) ∧ _
      by_cases e : b = n
      · subst e
        rw [if_pos rfl, if_pos rfl, fl_up_s, fl_up_s]
        simp [st_k, st_s]
      · rw [if_neg e, if_neg e, fl_up_n _ _ e, fl_up_n _ _ e]
        simp [st_k, st_j, e]
        exact hN.2.1 b (by omega)
    · show _ = nI (if b = n then u else fr b) ∧ _ = nI (if b = n then v else to b) ∧ _
      by_cases e : b = n
      · subst e
        rw [if_pos rfl, if_pos rfl, fl_up_s]
        simp [st_k, st_s]
        exact e2
      · rw [if_neg e, if_neg e, cM_n e, fl_up_n _ _ e]
        simp [st_k, st_j, e]
        exact hM.2.1 b (by omega)
  · rw [if_neg (by rw [i_lt, en, z20]; omega), if_pos (by rw [i_eq, en, z20]; omega)]
    exact ⟨_, σ, τ, rfl, rfl, h⟩
