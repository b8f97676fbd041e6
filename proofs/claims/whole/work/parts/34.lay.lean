/-! pure rows: the network in the class's rows; lay and tilt -/
def lk_w (g : Nat → Int) (j : Nat) : Int := if j % 2 = 0 then g (j / 2) else -g (j / 2)
theorem lk_w0 (g : Nat → Int) (a : Nat) : lk_w g (2 * a) = g a := by unfold lk_w; rw [if_pos (by omega), show 2 * a / 2 = a by omega]
theorem lk_w1 (g : Nat → Int) (a : Nat) : lk_w g (2 * a + 1) = -g a := by unfold lk_w; rw [if_neg (by omega), show (2 * a + 1) / 2 = a by omega]
def cl_N (σ : fl_St) (n : Nat) (fr to : Nat → Nat) (cp cs sp : Nat → Int) : Prop :=
  σ 12 0 = nI n ∧ (∀ a, a < n → σ 0 a = nI (fr a) ∧ σ 1 a = nI (to a) ∧ (σ 2 a).toInt = cp a ∧ (σ 3 a).toInt = cs a) ∧ ∀ v, v < 8 → (σ 4 v).toInt = sp v
def fl_V (n : Nat) (fr to : Nat → Nat) (cp cs sp : Nat → Int) : Prop :=
  n ≤ 20 ∧ fl_Ar 8 n fr to ∧ (∀ a, a < n → (-1 ≤ cp a ∧ cp a ≤ 30) ∧ -60 ≤ cs a ∧ cs a ≤ 60) ∧ ∀ v, v < 8 → -30 ≤ sp v ∧ sp v ≤ 30
theorem cl_N.mv {σ σ' : fl_St} {n : Nat} {fr to : Nat → Nat} {cp cs sp : Nat → Int} (h : cl_N σ n fr to cp cs sp) (e : ∀ k, k < 5 ∨ k = 12 → σ' k = σ k) : cl_N σ' n fr to cp cs sp := by
  unfold cl_N
  rw [e 0 (by omega), e 1 (by omega), e 2 (by omega), e 3 (by omega), e 4 (by omega), e 12 (by omega)]
  exact h
/-- rows 5, 6, 7 alone are changed -/
def cl_F2 (σ σ' : fl_St) : Prop := ∀ k, k ≠ 5 → k ≠ 6 → k ≠ 7 → σ' k = σ k
theorem p_lay_in {n : Nat} {fr to : Nat → Nat} {cp cs sp : Nat → Int} (hV : fl_V n fr to cp cs sp) {x1 : Int32} {sc : Int} (hx : x1.toInt = sc) (hs : 0 ≤ sc ∧ sc ≤ 841) :
    ∀ (f i : Nat) (σ : fl_St), i ≤ n → n - i < f → cl_N σ n fr to cp cs sp → (∀ j, j < 2 * i → σ 5 j = nI (lk_tl fr to j) ∧ σ 6 j = nI (lk_hd fr to j) ∧ (σ 7 j).toInt = lk_w (fun a => sc * cs a) j) →
      ∃ σ', f_X1_lay_l2 x1 f (nI i) σ = some σ' ∧ cl_F2 σ σ' ∧ cl_L σ' n fr to (lk_w (fun a => sc * cs a)) := by
  obtain ⟨hn, ha, hc, -⟩ := hV
  intro f
  induction f with
  | zero => intro i σ h1 h2; omega
  | succ f ih =>
    intro i σ h1 h2 hN hj
    by_cases c : i = n
    · subst c
      refine ⟨σ, ?_, fun _ _ _ _ => rfl, hN.1, hj⟩
      rw [f_X1_lay_l2, hN.1, if_pos (nI_le (Nat.le_refl _) (by omega))]
    · have hlt : i < n := by omega
      obtain ⟨q0, q1, q2, q3⟩ := hN.2.1 i hlt
      obtain ⟨⟨-, -⟩, c1, c2⟩ := hc i hlt
      have hm : (x1 * σ 3 i).toInt = sc * cs i := by
        have b1 : -(841 * 60) ≤ sc * cs i ∧ sc * cs i ≤ 841 * 60 := by
          have p1 : sc * cs i ≤ sc * 60 := Int.mul_le_mul_of_nonneg_left c2 hs.1
          have p2 : sc * (-60) ≤ sc * cs i := Int.mul_le_mul_of_nonneg_left c1 hs.1
          omega
        rw [i_mul (by rw [hx, q3]; omega) (by rw [hx, q3]; omega), hx, q3]
      have hm2 : (-(x1 * σ 3 i)).toInt = -(sc * cs i) := by
        have b1 : -(841 * 60) ≤ sc * cs i := by
          have p2 : sc * (-60) ≤ sc * cs i := Int.mul_le_mul_of_nonneg_left c1 hs.1
          omega
        rw [i_neg (by rw [hm]; omega), hm]
      rw [f_X1_lay_l2, hN.1, if_neg (nI_ge hlt (by omega)), nI_21, nI_2, nI_1, fl_rd_n (by omega) (by omega), fl_bs, fl_wr_n (by omega) (by omega), fl_bs, fl_rd_n (by omega) (by omega), fl_bs, fl_wr_n (by omega) (by omega), fl_bs, fl_rd_n (by omega) (by omega), fl_bs, fl_wr_n (by omega) (by omega), fl_bs, fl_rd_n (by omega) (by omega), fl_bs, fl_wr_n (by omega) (by omega), fl_bs, fl_rd_n (by omega) (by omega), fl_bs, fl_wr_n (by omega) (by omega), fl_bs, fl_rd_n (by omega) (by omega), fl_bs, fl_wr_n (by omega) (by omega), fl_bs]
      generalize hσ : st _ 7 (2 * i + 1) _ = σ1
      have hF : cl_F2 σ σ1 := by
        intro k a b d
        rw [← hσ]
        simp [st_k, a, b, d]
      have hN1 : cl_N σ1 n fr to cp cs sp := hN.mv (fun k hk => hF k (by omega) (by omega) (by omega))
      obtain ⟨σ', e1, e2, e3⟩ := ih (i + 1) σ1 (by omega) (by omega) hN1 (by
        intro j hj2
        by_cases c5 : j < 2 * i
        · have := hj j c5
          rw [← hσ]
          have n1 : j ≠ 2 * i := by omega
          have n2 : j ≠ 2 * i + 1 := by omega
          simp [st_k, st_j, n1, n2, this]
        · rcases (show j = 2 * i ∨ j = 2 * i + 1 by omega) with rfl | rfl
          · rw [lk_t0, lk_h0, lk_w0, ← hσ]
            have n2 : 2 * i ≠ 2 * i + 1 := by omega
            simp [st_k, st_j, st_s, n2, q0, q1, hm]
          · rw [lk_t1, lk_h1, lk_w1, ← hσ]
            have n2 : 2 * i ≠ 2 * i + 1 := by omega
            simp [st_k, st_j, st_s, n2, q0, q1, hm2])
      refine ⟨σ', e1, fun k a b d => (e2 k a b d).trans (hF k a b d), e3⟩
theorem p_lay {n : Nat} {fr to : Nat → Nat} {cp cs sp : Nat → Int} (hV : fl_V n fr to cp cs sp) {x1 : Int32} {sc : Int} (hx : x1.toInt = sc) (hs : 0 ≤ sc ∧ sc ≤ 841) {σ : fl_St} (hN : cl_N σ n fr to cp cs sp) :
    ∃ σ', f_X1_lay x1 σ = some σ' ∧ cl_F2 σ σ' ∧ cl_L σ' n fr to (lk_w (fun a => sc * cs a)) ∧ cl_N σ' n fr to cp cs sp := by
  obtain ⟨σ', e1, e2, e3⟩ := p_lay_in hV hx hs fl_N 0 σ (by omega) (by have := hV.1; unfold fl_N; omega) hN (fun j hj => by omega)
  refine ⟨σ', ?_, e2, e3, hN.mv (fun k hk => e2 k (by omega) (by omega) (by omega))⟩
  unfold f_X1_lay
  rw [show f_X1_lay_l2 x1 fl_N 0 σ = some σ' from e1, fl_bs]
theorem p_tilt {n : Nat} {fr to : Nat → Nat} {g : Nat → Int} (hn : n ≤ 20) {σ : fl_St} (hl : cl_L σ n fr to (lk_w g)) (hg : ∀ a, a < n → -60000 ≤ g a ∧ g a ≤ 60000) {a : Nat} (ha : a < n) {x2 : Int32} {t : Int} (hx : x2.toInt = t) (ht : -1 ≤ t ∧ t ≤ 1) :
    ∃ σ', f_X1_tilt (nI a) x2 σ = some σ' ∧ (∀ k, k ≠ 7 → σ' k = σ k) ∧ cl_L σ' n fr to (lk_w (fl_up g a (g a + t))) := by
  unfold f_X1_tilt
  rw [nI_21, nI_2, fl_rd_n (by omega) (by omega), fl_bs, fl_wr_n (by omega) (by omega), fl_bs, fl_rd_n (by omega) (by omega), fl_bs, fl_wr_n (by omega) (by omega), fl_bs]
  refine ⟨_, rfl, fun k hk => by simp [st_k, hk], ?_⟩
  have ga := hg a ha
  obtain ⟨-, -, w0⟩ := hl.2 (2 * a) (by omega)
  obtain ⟨-, -, w1⟩ := hl.2 (2 * a + 1) (by omega)
  rw [lk_w0] at w0
  rw [lk_w1] at w1
  refine ⟨by simp [st_k]; exact hl.1, fun j hj => ?_⟩
  obtain ⟨p1, p2, p3⟩ := hl.2 j hj
  refine ⟨by simp [st_k]; exact p1, by simp [st_k]; exact p2, ?_⟩
  have n2 : 2 * a + 1 ≠ 2 * a := by omega
  rcases (show j = 2 * a ∨ j = 2 * a + 1 ∨ (j ≠ 2 * a ∧ j ≠ 2 * a + 1) by omega) with rfl | rfl | ⟨m1, m2⟩
  · rw [lk_w0, fl_up_s, st_j _ _ _ n2.symm, st_s, i_add (by omega) (by omega)]
    omega
  · rw [lk_w1, fl_up_s, st_s, st_j _ _ _ n2, i_sub (by omega) (by omega)]
    omega
  · rw [st_j _ _ _ m2, st_j _ _ _ m1, p3]
    unfold lk_w
    have hne : j / 2 ≠ a := by omega
    rw [fl_up_n _ _ hne]
