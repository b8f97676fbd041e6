/-! pure rows: starts, the nearest short node, the way back, sending along it -/
theorem p_setStart {σ : fl_St} {v : Nat} (hv : v < 8) (x2 : Int32) : f_X1_setStart (nI v) x2 σ = some (st (st σ 10 v (if x2 = 0 then 1000000000 else 0)) 11 v (-1)) := by
  unfold f_X1_setStart
  by_cases c : x2 = 0
  · rw [if_pos c, if_pos c, fl_bs, fl_wr_n hv (by omega), fl_bs, fl_wr_n hv (by omega), fl_bs]
  · rw [if_neg c, if_neg c, fl_bs, fl_wr_n hv (by omega), fl_bs, fl_wr_n hv (by omega), fl_bs]
theorem cl_F.ss {σ : fl_St} {v v' : Nat} {a b : Int32} : cl_F σ (st (st σ 10 v a) 11 v' b) := cl_F.tr cl_F.st1 cl_F.st2
theorem p_startX_in : ∀ (f i : Nat) (σ : fl_St), i ≤ 8 → 8 - i < f → (∀ v, v < i → rv σ 10 v = (if 0 < rv σ 9 v then 0 else 1000000000) ∧ rv σ 11 v = -1) →
    ∃ σ', f_X1_startAtExcess_l2 f (nI i) σ = some σ' ∧ cl_F σ σ' ∧ ∀ v, v < 8 → rv σ' 10 v = (if 0 < rv σ' 9 v then 0 else 1000000000) ∧ rv σ' 11 v = -1 := by
  intro f
  induction f with
  | zero => intro i σ h1 h2; omega
  | succ f ih =>
    intro i σ h1 h2 hz
    by_cases c : i = 8
    · subst c
      exact ⟨σ, by rw [f_X1_startAtExcess_l2]; rfl, cl_F.rf, hz⟩
    · have key : ∃ y : Int32, f_X1_startAtExcess_l2 (f + 1) (nI i) σ = f_X1_startAtExcess_l2 f (nI (i + 1)) (st (st σ 10 i y) 11 i (-1)) ∧ y.toInt = (if 0 < rv σ 9 i then 0 else 1000000000) := by
        rw [f_X1_startAtExcess_l2, if_neg (nI_8 (by omega)), fl_rd_n (by omega) (by omega), fl_bs, nI_1]
        by_cases c2 : 0 < rv σ 9 i
        · have c3 : ¬ σ 9 i ≤ 0 := by
            rw [i_le]
            have z : (0 : Int32).toInt = 0 := by decide
            show ¬ rv σ 9 i ≤ _
            omega
          rw [if_neg c3, fl_bs, p_setStart (by omega), fl_bs, if_pos c2]
          exact ⟨_, rfl, by decide⟩
        · have c3 : σ 9 i ≤ 0 := by
            rw [i_le]
            have z : (0 : Int32).toInt = 0 := by decide
            show rv σ 9 i ≤ _
            omega
          rw [if_pos c3, fl_bs, p_setStart (by omega), fl_bs, if_neg c2]
          exact ⟨_, rfl, by decide⟩
      obtain ⟨y, e0, ey⟩ := key
      rw [e0]
      obtain ⟨σ', e1, e2, e3⟩ := ih (i + 1) (st (st σ 10 i y) 11 i (-1)) (by omega) (by omega) (fun v hv => by
        rw [rv_sk (k' := 10) _ _ _ (by decide), rv_st, rv_sk (k' := 9) _ _ _ (by decide), rv_sk (k' := 9) _ _ _ (by decide), rv_st (k := 11), rv_sk (k' := 11) _ _ _ (by decide)]
        by_cases c5 : v = i
        · subst c5
          rw [fl_up_s, fl_up_s]
          exact ⟨ey, by decide⟩
        · rw [fl_up_n _ _ c5, fl_up_n _ _ c5]
          exact hz v (by omega))
      exact ⟨σ', e1, cl_F.ss.tr e2, e3⟩
theorem p_startX (σ : fl_St) : ∃ σ', f_X1_startAtExcess σ = some σ' ∧ cl_F σ σ' ∧ ∀ v, v < 8 → rv σ' 10 v = (if 0 < rv σ 9 v then 0 else 1000000000) ∧ rv σ' 11 v = -1 := by
  obtain ⟨σ', e1, e2, e3⟩ := p_startX_in fl_N 0 σ (by omega) (by unfold fl_N; omega) (fun v hv => by omega)
  refine ⟨σ', ?_, e2, fun v hv => ?_⟩
  · unfold f_X1_startAtExcess
    rw [show f_X1_startAtExcess_l2 fl_N 0 σ = some σ' from e1, fl_bs]
  · have := e3 v hv
    rwa [show rv σ' 9 = rv σ 9 by funext q; show (σ' 9 q).toInt = (σ 9 q).toInt; rw [e2 9 (by decide) (by decide)]] at this
theorem p_startR_in {u : Nat} (hu : u < 8) (x2 x3 : Int32) : ∀ (f i : Nat) (σ : fl_St), i ≤ 8 → 8 - i < f → (∀ v, v < i → rv σ 10 v = (if v = u then 0 else 1000000000) ∧ rv σ 11 v = -1) →
    ∃ σ', f_X1_canReach_l3 (nI u) x2 x3 f (nI i) σ = some σ' ∧ cl_F σ σ' ∧ ∀ v, v < 8 → rv σ' 10 v = (if v = u then 0 else 1000000000) ∧ rv σ' 11 v = -1 := by
  intro f
  induction f with
  | zero => intro i σ h1 h2; omega
  | succ f ih =>
    intro i σ h1 h2 hz
    by_cases c : i = 8
    · subst c
      exact ⟨σ, by rw [f_X1_canReach_l3]; rfl, cl_F.rf, hz⟩
    · have key : ∃ y : Int32, f_X1_canReach_l3 (nI u) x2 x3 (f + 1) (nI i) σ = f_X1_canReach_l3 (nI u) x2 x3 f (nI (i + 1)) (st (st σ 10 i y) 11 i (-1)) ∧ y.toInt = (if i = u then 0 else 1000000000) := by
        rw [f_X1_canReach_l3, if_neg (nI_8 (by omega)), nI_1]
        by_cases c2 : i = u
        · rw [if_pos (by rw [c2]), fl_bs, p_setStart (by omega), fl_bs, if_pos c2]
          exact ⟨_, rfl, by decide⟩
        · rw [if_neg (fun q => c2 ((nI_eq (by omega) (by omega)).mp q)), fl_bs, p_setStart (by omega), fl_bs, if_neg c2]
          exact ⟨_, rfl, by decide⟩
      obtain ⟨y, e0, ey⟩ := key
      rw [e0]
      obtain ⟨σ', e1, e2, e3⟩ := ih (i + 1) (st (st σ 10 i y) 11 i (-1)) (by omega) (by omega) (fun v hv => by
        rw [rv_sk (k' := 10) _ _ _ (by decide), rv_st, rv_st (k := 11), rv_sk (k' := 11) _ _ _ (by decide)]
        by_cases c5 : v = i
        · subst c5
          rw [fl_up_s, fl_up_s]
          exact ⟨ey, by decide⟩
        · rw [fl_up_n _ _ c5, fl_up_n _ _ c5]
          exact hz v (by omega))
      exact ⟨σ', e1, cl_F.ss.tr e2, e3⟩
theorem p_near_in (σ : fl_St) : ∀ (f i : Nat) (x1 x2 : Int32), i ≤ 8 → 8 - i < f →
    ((x1 = -1 ∧ x2.toInt = 1000000000 ∧ ∀ v, v < i → rv σ 9 v < 0 → 1000000000 ≤ rv σ 10 v) ∨ (x2.toInt < 1000000000 ∧ ∃ v, v < 8 ∧ x1 = nI v ∧ rv σ 9 v < 0 ∧ rv σ 10 v < 1000000000)) →
    ∃ r, f_X1_nearestShortNode_l7 σ f x1 x2 (nI i) = some r ∧ ((r = -1 ∧ ∀ v, v < 8 → rv σ 9 v < 0 → 1000000000 ≤ rv σ 10 v) ∨ ∃ v, v < 8 ∧ r = nI v ∧ rv σ 9 v < 0 ∧ rv σ 10 v < 1000000000) := by
  intro f
  induction f with
  | zero => intro i x1 x2 h1 h2; omega
  | succ f ih =>
    intro i x1 x2 h1 h2 hz
    by_cases c : i = 8
    · subst c
      refine ⟨x1, by rw [f_X1_nearestShortNode_l7]; rfl, ?_⟩
      rcases hz with ⟨a, -, b⟩ | ⟨-, b⟩
      · exact Or.inl ⟨a, b⟩
      · exact Or.inr b
    · rw [f_X1_nearestShortNode_l7, if_neg (nI_8 (by omega)), fl_rd_n (by omega) (by omega), fl_bs, nI_1]
      have z : (0 : Int32).toInt = 0 := by decide
      by_cases c2 : rv σ 9 i < 0
      · rw [if_neg (by rw [i_le, z]; show ¬ 0 ≤ rv σ 9 i; omega), fl_rd_n (by omega) (by omega), fl_bs]
        by_cases c3 : rv σ 10 i < x2.toInt
        · rw [if_neg (by rw [i_le]; show ¬ x2.toInt ≤ rv σ 10 i; omega), fl_bs, fl_b2s]
          have hlt : rv σ 10 i < 1000000000 := by rcases hz with ⟨-, b, -⟩ | ⟨b, -⟩ <;> omega
          exact ih (i + 1) (nI i) (σ 10 i) (by omega) (by omega) (Or.inr ⟨hlt, i, by omega, rfl, c2, hlt⟩)
        · rw [if_pos (by rw [i_le]; show x2.toInt ≤ rv σ 10 i; omega), fl_b2s]
          refine ih (i + 1) x1 x2 (by omega) (by omega) ?_
          rcases hz with ⟨a, b, d⟩ | b
          · refine Or.inl ⟨a, b, fun v hv h9 => ?_⟩
            by_cases e : v = i
            · subst e; omega
            · exact d v (by omega) h9
          · exact Or.inr b
      · rw [if_pos (by rw [i_le, z]; show 0 ≤ rv σ 9 i; omega), fl_b2s]
        refine ih (i + 1) x1 x2 (by omega) (by omega) ?_
        rcases hz with ⟨a, b, d⟩ | b
        · refine Or.inl ⟨a, b, fun v hv h9 => ?_⟩
          by_cases e : v = i
          · subst e; omega
          · exact d v (by omega) h9
        · exact Or.inr b
theorem p_near (σ : fl_St) : ∃ r, f_X1_nearestShortNode σ = some r ∧ ((r = -1 ∧ ∀ v, v < 8 → rv σ 9 v < 0 → 1000000000 ≤ rv σ 10 v) ∨ ∃ v, v < 8 ∧ r = nI v ∧ rv σ 9 v < 0 ∧ rv σ 10 v < 1000000000) := by
  obtain ⟨r, e1, e2⟩ := p_near_in σ fl_N 0 (-1) 1000000000 (by omega) (by unfold fl_N; omega) (Or.inl ⟨rfl, by decide, fun v hv => by omega⟩)
  refine ⟨r, ?_, e2⟩
  unfold f_X1_nearestShortNode
  rw [show f_X1_nearestShortNode_l7 σ fl_N (-1) 1000000000 0 = some r from e1, fl_bs]
/-- k entries lead back from v to s, whose entry is none; P holds of each link -/
def ck (en : Nat → Int) (tl : Nat → Nat) (P : Nat → Prop) : Nat → Nat → Nat → Prop
  | 0, v, s => v = s ∧ en v = -1
  | k + 1, v, s => ∃ j : Nat, en v = (j : Int) ∧ P j ∧ ck en tl P k (tl j) s
theorem ck_mono {en : Nat → Int} {tl : Nat → Nat} {P P' : Nat → Prop} (h : ∀ j, P j → P' j) : ∀ k v s, ck en tl P k v s → ck en tl P' k v s := by
  intro k
  induction k with
  | zero => intro v s h; exact h
  | succ k ih =>
    intro v s hk
    obtain ⟨j, a, b, c⟩ := hk
    exact ⟨j, a, h j b, ih _ _ c⟩
/-- the entries of a fixed point -/
def ck_Z (m : Nat) (op : Nat → Prop) (tl hd : Nat → Nat) (w d en : Nat → Int) (tm : Nat → Nat) : Prop :=
  ∀ v, v < 8 → en v ≠ -1 → d v < 1000000000 ∧ ∃ j : Nat, j < m ∧ en v = (j : Int) ∧ op j ∧ hd j = v ∧ d (tl j) < 1000000000 ∧ d v = d (tl j) + w j ∧ tm (tl j) < tm v
section WAY
variable {n : Nat} {fr to : Nat → Nat} {w : Nat → Int} {tm : Nat → Nat} {op : Nat → Prop}
theorem p_way (hn : n ≤ 20) (ha : fl_Ar 8 n fr to) {σ : fl_St} (hl : cl_L σ n fr to w) (hZ : ck_Z (2 * n) op (lk_tl fr to) (lk_hd fr to) w (rv σ 10) (rv σ 11) tm) (hop : ∀ j, op j → 0 < rv σ 8 j) (x1 : Int32) :
    ∀ (f stp v : Nat) (u : Int32), v < 8 → rv σ 10 v < 1000000000 → fl_cnt 8 tm v + stp ≤ 7 → 8 - stp < f → 1 ≤ u.toInt →
      ∃ (u' : Int32) (s k : Nat), f_X1_sendOnce_l34 x1 σ f u (nI v) (nI stp) = some (u', nI s) ∧ s < 8 ∧ rv σ 10 s < 1000000000 ∧ rv σ 11 s = -1 ∧ 1 ≤ u'.toInt ∧ u'.toInt ≤ u.toInt ∧
        ck (rv σ 11) (lk_tl fr to) (fun j => u'.toInt ≤ rv σ 8 j) k v s ∧ k + stp ≤ 7 := by
  intro f
  induction f with
  | zero =>
    intro stp v u hv hd hc hf hu
    have := fl_cnt_0 (n := 8) (t := tm) (v := v)
    omega
  | succ f ih =>
    intro stp v u hv hd hc hf hu
    have h0 := fl_cnt_0 (n := 8) (t := tm) (v := v)
    rw [f_X1_sendOnce_l34, if_neg (nI_8 (by omega)), fl_rd_n hv (by omega), fl_bs, nI_1]
    by_cases c : rv σ 11 v = -1
    · rw [if_pos ((i_m1 (c := rv σ 11 v) rfl).mpr c)]
      exact ⟨u, v, 0, rfl, hv, hd, c, hu, Int.le_refl _, ⟨rfl, c⟩, by omega⟩
    · rw [if_neg (fun q => c ((i_m1 (c := rv σ 11 v) rfl).mp q))]
      obtain ⟨-, j, j1, j2, j3, j4, j5, j6, j7⟩ := hZ v hv c
      obtain ⟨k1, k2, k3⟩ := lk_in ha j1
      have e11 : σ 11 v = nI j := by rw [i_eq, nI_t (by omega)]; exact j2
      have hc2 := fl_cnt_lt (n := 8) (t := tm) k1 j7
      have h8 := hop j j3
      rw [fl_bs, e11, fl_rd_n (by omega) (by omega), fl_bs, fl_bs, fl_rd_n (by omega) (by omega), fl_bs, (hl.2 j j1).1]
      have hm : ∃ z : Int32, (if σ 8 j < u then σ 8 j else u) = z ∧ 1 ≤ z.toInt ∧ z.toInt ≤ u.toInt ∧ z.toInt ≤ rv σ 8 j := by
        by_cases c2 : σ 8 j < u
        · rw [if_pos c2]
          rw [i_lt] at c2
          exact ⟨_, rfl, by show 1 ≤ rv σ 8 j; omega, by omega, Int.le_refl _⟩
        · rw [if_neg c2]
          rw [i_lt] at c2
          exact ⟨_, rfl, hu, Int.le_refl _, by show u.toInt ≤ (σ 8 j).toInt; omega⟩
      obtain ⟨z, ez, z1, z2, z3⟩ := hm
      rw [ez]
      obtain ⟨u', s, k, r1, r2, r3, r4, r5, r6, r7, r8⟩ := ih (stp + 1) (lk_tl fr to j) z k1 j5 (by omega) (by omega) z1
      exact ⟨u', s, k + 1, r1, r2, r3, r4, r5, by omega, ⟨j, j2, by omega, r7⟩, by omega⟩
end WAY
