/-! pure rows: cuts; amount and bottleneck of the class -/
def cu_ok (n : Nat) (fr to : Nat → Nat) (cp s : Nat → Int) : Prop := (∀ v, s v = 0 ∨ s v = 1) ∧ ∀ a, a < n → s (fr a) = 1 → s (to a) = 0 → cp a ≠ -1
def cu_v (n : Nat) (fr to : Nat → Nat) (cp sp s : Nat → Int) : Int :=
  fl_S 8 (fun v => if s v = 1 then (if sp v < 0 then -sp v else 0) else (if 0 < sp v then sp v else 0)) + fl_S n (fun a => if s (fr a) = 1 ∧ s (to a) = 0 then cp a else 0)
/-- A is the least that a set has -/
def am_I (n : Nat) (fr to : Nat → Nat) (cp sp : Nat → Int) (A : Int) : Prop := (∃ s, cu_ok n fr to cp s ∧ cu_v n fr to cp sp s = A) ∧ ∀ s, cu_ok n fr to cp s → A ≤ cu_v n fr to cp sp s
theorem am_I.eq {n : Nat} {fr to : Nat → Nat} {cp sp : Nat → Int} {A B : Int} (h : am_I n fr to cp sp A) (h' : am_I n fr to cp sp B) : A = B := by
  obtain ⟨⟨s, s1, s2⟩, h2⟩ := h
  obtain ⟨⟨t, t1, t2⟩, h3⟩ := h'
  have := h2 t t1
  have := h3 s s1
  omega
/-- s is such a set, and part of all the others -/
def bo_I (n : Nat) (fr to : Nat → Nat) (cp sp s : Nat → Int) : Prop := cu_ok n fr to cp s ∧ ∀ t, cu_ok n fr to cp t → cu_v n fr to cp sp s ≤ cu_v n fr to cp sp t ∧ (cu_v n fr to cp sp t = cu_v n fr to cp sp s → ∀ v, v < 8 → s v = 1 → t v = 1)
section CUT
variable {n : Nat} {fr to : Nat → Nat} {cp sp x ex s : Nat → Int}
theorem fl_S_z {n : Nat} {f : Nat → Int} (h : ∀ i, i < n → 0 ≤ f i) (h0 : fl_S n f ≤ 0) {i : Nat} (hi : i < n) : f i = 0 := by
  have h1 : fl_S n (fun k => if k = i then f k else 0) ≤ fl_S n f := fl_S_le (fun k hk => by
    by_cases e : k = i
    · rw [if_pos e]; exact Int.le_refl _
    · rw [if_neg e]; exact h k hk)
  rw [fl_S_pick hi] at h1
  have := h i hi
  omega
/-- what a set has beyond what is sent -/
theorem cu_id (ha : fl_Ar 8 n fr to) (h01 : ∀ v, s v = 0 ∨ s v = 1) (he : ∀ v, v < 8 → ex v = sp v - fl_div n fr to x v) :
    cu_v n fr to cp sp s = fl_pos sp - fl_pos ex + fl_S 8 (fun v => if s v = 1 then (if ex v < 0 then -ex v else 0) else (if 0 < ex v then ex v else 0)) +
      fl_S n (fun a => if s (fr a) = 1 ∧ s (to a) = 0 then cp a - x a else if s (fr a) = 0 ∧ s (to a) = 1 then x a else 0) := by
  have h0 := fl_div_pot ha.w s x
  have h1 : fl_S 8 (fun v => if s v = 1 then (if sp v < 0 then -sp v else 0) else (if 0 < sp v then sp v else 0)) + fl_S 8 (fun v => s v * fl_div n fr to x v) =
      fl_pos sp - fl_pos ex + fl_S 8 (fun v => if s v = 1 then (if ex v < 0 then -ex v else 0) else (if 0 < ex v then ex v else 0)) := by
    unfold fl_pos
    rw [← fl_S_add, ← fl_S_sub, ← fl_S_add]
    refine fl_S_congr (fun v hv => ?_)
    have := he v hv
    rcases h01 v with q | q
    · rw [if_neg (c := s v = 1) (by omega), if_neg (c := s v = 1) (by omega), q]
      split <;> split <;> omega
    · rw [if_pos (c := s v = 1) q, if_pos (c := s v = 1) q, q, show (1 : Int) * fl_div n fr to x v = sp v - ex v by omega]
      split <;> split <;> split <;> split <;> omega
  have h2 : fl_S n (fun a => if s (fr a) = 1 ∧ s (to a) = 0 then cp a else 0) - fl_S n (fun a => x a * (s (fr a) - s (to a))) = fl_S n (fun a => if s (fr a) = 1 ∧ s (to a) = 0 then cp a - x a else if s (fr a) = 0 ∧ s (to a) = 1 then x a else 0) := by
    rw [← fl_S_sub]
    refine fl_S_congr (fun a _ => ?_)
    rcases h01 (fr a) with q1 | q1 <;> rcases h01 (to a) with q2 | q2 <;> rw [q1, q2] <;> simp <;> omega
  unfold cu_v
  omega
theorem cu_nn (hb : fl_Bd n cp x) (hs : cu_ok n fr to cp s) : ∀ a, a < n → 0 ≤ (if s (fr a) = 1 ∧ s (to a) = 0 then cp a - x a else if s (fr a) = 0 ∧ s (to a) = 1 then x a else 0) := by
  intro a h
  obtain ⟨b1, b2⟩ := hb a h
  by_cases c : s (fr a) = 1 ∧ s (to a) = 0
  · rw [if_pos c]
    have := hs.2 a h c.1 c.2
    omega
  · rw [if_neg c]
    split <;> omega
theorem cu_nv (s ex : Nat → Int) : ∀ v, v < 8 → 0 ≤ (if s v = 1 then (if ex v < 0 then -ex v else 0) else (if 0 < ex v then ex v else 0)) := by
  intro v _
  split <;> split <;> omega
theorem am_le (ha : fl_Ar 8 n fr to) (hb : fl_Bd n cp x) (he : ∀ v, v < 8 → ex v = sp v - fl_div n fr to x v) (hs : cu_ok n fr to cp s) : fl_pos sp - fl_pos ex ≤ cu_v n fr to cp sp s := by
  rw [cu_id ha hs.1 he]
  have h1 := fl_S_nonneg (cu_nv s ex)
  have h2 := fl_S_nonneg (cu_nn hb hs)
  omega
/-- a set that what is over fills, full at its end -/
theorem am_eq (ha : fl_Ar 8 n fr to) (he : ∀ v, v < 8 → ex v = sp v - fl_div n fr to x v) (h01 : ∀ v, s v = 0 ∨ s v = 1) (h1 : ∀ v, v < 8 → 0 < ex v → s v = 1) (h2 : ∀ v, v < 8 → ex v < 0 → s v = 0)
    (h3 : ∀ a, a < n → s (fr a) = 1 → s (to a) = 0 → cp a ≠ -1 ∧ x a = cp a) (h4 : ∀ a, a < n → s (fr a) = 0 → s (to a) = 1 → x a = 0) : cu_ok n fr to cp s ∧ cu_v n fr to cp sp s = fl_pos sp - fl_pos ex := by
  refine ⟨⟨h01, fun a h q1 q2 => (h3 a h q1 q2).1⟩, ?_⟩
  rw [cu_id ha h01 he]
  have e1 : fl_S 8 (fun v => if s v = 1 then (if ex v < 0 then -ex v else 0) else (if 0 < ex v then ex v else 0)) = 0 := by
    rw [fl_S_congr (g := fun _ => 0) (fun v hv => ?_), fl_S_zero]
    have q1 := h1 v hv
    have q2 := h2 v hv
    rcases h01 v with q | q
    · rw [q, if_neg (by decide)]
      split
      · have := q1 (by assumption); omega
      · rfl
    · rw [q, if_pos rfl]
      split
      · have := q2 (by assumption); omega
      · rfl
  have e2 : fl_S n (fun a => if s (fr a) = 1 ∧ s (to a) = 0 then cp a - x a else if s (fr a) = 0 ∧ s (to a) = 1 then x a else 0) = 0 := by
    rw [fl_S_congr (g := fun _ => 0) (fun a h => ?_), fl_S_zero]
    by_cases c : s (fr a) = 1 ∧ s (to a) = 0
    · rw [if_pos c]
      have := h3 a h c.1 c.2
      omega
    · rw [if_neg c]
      by_cases c2 : s (fr a) = 0 ∧ s (to a) = 1
      · rw [if_pos c2]; exact h4 a h c2.1 c2.2
      · rw [if_neg c2]
  omega
/-- any set that has as little holds what is over, is full at its end, and empty at its start -/
theorem am_tight (ha : fl_Ar 8 n fr to) (hb : fl_Bd n cp x) (he : ∀ v, v < 8 → ex v = sp v - fl_div n fr to x v) (hs : cu_ok n fr to cp s) (h : cu_v n fr to cp sp s = fl_pos sp - fl_pos ex) :
    (∀ v, v < 8 → 0 < ex v → s v = 1) ∧ (∀ a, a < n → s (fr a) = 1 → s (to a) = 0 → x a = cp a) ∧ ∀ a, a < n → s (fr a) = 0 → s (to a) = 1 → x a = 0 := by
  rw [cu_id ha hs.1 he] at h
  have h1 := fl_S_nonneg (cu_nv s ex)
  have h2 := fl_S_nonneg (cu_nn hb hs)
  refine ⟨fun v hv q => ?_, fun a h9 q1 q2 => ?_, fun a h9 q1 q2 => ?_⟩
  · have := fl_S_z (cu_nv s ex) (by omega) hv
    rcases hs.1 v with q2 | q2
    · rw [q2, if_neg (by decide), if_pos q] at this
      omega
    · exact q2
  · have := fl_S_z (cu_nn hb hs) (by omega) h9
    rw [if_pos ⟨q1, q2⟩] at this
    omega
  · have := fl_S_z (cu_nn hb hs) (by omega) h9
    rw [if_neg (by omega), if_pos ⟨q1, q2⟩] at this
    exact this
end CUT
theorem p_sum_in {fi : Nat} (hfi : fi = 4 ∨ fi = 9) {σ : fl_St} (hb : ∀ v, v < 8 → -1000 ≤ rv σ fi v ∧ rv σ fi v ≤ 1000) :
    ∀ (f i : Nat) (x1 : Int32), i ≤ 8 → 8 - i < f → x1.toInt = fl_S i (fun v => if 0 < rv σ fi v then rv σ fi v else 0) → 0 ≤ x1.toInt → x1.toInt ≤ 1000 * (i : Int) →
      ∃ r, f_X2_sumAboveZero_l10 fi 8 σ f x1 (nI i) = some r ∧ r.toInt = fl_pos (rv σ fi) := by
  intro f
  induction f with
  | zero => intro i x1 h1 h2; omega
  | succ f ih =>
    intro i x1 h1 h2 hx b1 b2
    by_cases c : i = 8
    · subst c
      exact ⟨x1, by rw [f_X2_sumAboveZero_l10]; rfl, hx⟩
    · rw [f_X2_sumAboveZero_l10, if_neg (nI_8 (by omega)), fl_rd_n (by omega) (by omega), fl_bs, nI_1]
      have hbi := hb i (by omega)
      have z : (0 : Int32).toInt = 0 := by decide
      have m : ∃ y : Int32, (if 0 < σ fi i then σ fi i else 0) = y ∧ y.toInt = if 0 < rv σ fi i then rv σ fi i else 0 := by
        by_cases c2 : 0 < rv σ fi i
        · rw [if_pos (by rw [i_lt, z]; exact c2), if_pos c2]
          exact ⟨_, rfl, rfl⟩
        · rw [if_neg (by rw [i_lt, z]; exact c2), if_neg c2]
          exact ⟨_, rfl, by decide⟩
      obtain ⟨y, ey, hy⟩ := m
      rw [ey]
      have hy2 : 0 ≤ y.toInt ∧ y.toInt ≤ 1000 := by rw [hy]; split <;> omega
      have e : (x1 + y).toInt = x1.toInt + y.toInt := i_add (by omega) (by omega)
      refine ih (i + 1) _ (by omega) (by omega) ?_ (by omega) (by omega)
      rw [e, hx, hy]
      rfl
theorem p_sum {fi : Nat} (hfi : fi = 4 ∨ fi = 9) {σ : fl_St} (hb : ∀ v, v < 8 → -1000 ≤ rv σ fi v ∧ rv σ fi v ≤ 1000) : ∃ r, f_X2_sumAboveZero fi σ = some r ∧ r.toInt = fl_pos (rv σ fi) := by
  obtain ⟨r, e1, e2⟩ := p_sum_in hfi hb fl_N 0 0 (by omega) (by unfold fl_N; omega) (by rfl) (by decide) (by decide)
  refine ⟨r, ?_, e2⟩
  unfold f_X2_sumAboveZero
  rw [show f_X2_sumAboveZero_l10 fi 8 σ fl_N 0 0 = some r from e1, fl_bs]
section AMOUNT
variable {n : Nat} {fr to : Nat → Nat} {cp cs sp : Nat → Int}
theorem rt_cut {ex0 ρ ex g : Nat → Int} (h : rt_I n fr to cp g sp ex0 ρ ex) {s : Nat → Int} (h01 : ∀ v, s v = 0 ∨ s v = 1) (hc : ∀ j, j < 2 * n → 0 < ρ j → s (lk_tl fr to j) = 1 → s (lk_hd fr to j) = 1) :
    (∀ a, a < n → s (fr a) = 1 → s (to a) = 0 → cp a ≠ -1 ∧ xo ρ a = cp a) ∧ ∀ a, a < n → s (fr a) = 0 → s (to a) = 1 → xo ρ a = 0 := by
  refine ⟨fun a h1 q1 q2 => rt_full h h1 (fun o => ?_), fun a h1 q1 q2 => ?_⟩
  · have := hc (2 * a) (by omega) o
    rw [lk_t0, lk_h0] at this
    have := this q1
    omega
  · have h2 := (h.1 a h1).2.1
    have : ¬ 0 < ρ (2 * a + 1) := fun o => by
      have := hc (2 * a + 1) (by omega) o
      rw [lk_t1, lk_h1] at this
      have := this q2
      omega
    show ρ (2 * a + 1) = 0
    omega
theorem p_free (hV : fl_V n fr to cp cs sp) {σ : fl_St} (hN : cl_N σ n fr to cp cs sp) :
    ∃ σ1 σ' : fl_St, f_X1_lay 0 σ = some σ1 ∧ f_X1_route σ1 = some (1, σ') ∧ cl_N σ' n fr to cp cs sp ∧ cl_L σ' n fr to (lk_w (fun _ => 0)) ∧ ∃ ex0, (∀ v, v < 8 → ex0 v = sp v) ∧ rt_I n fr to cp (fun _ => 0) sp ex0 (rv σ' 8) (rv σ' 9) ∧ rt_E n fr to (rv σ' 8) (rv σ' 9) := by
  obtain ⟨σ3, d1, d2, d3, d4⟩ := p_lay hV (x1 := 0) (sc := 0) (by decide) (by decide) hN
  rw [fl_nul] at d3
  obtain ⟨b5, σ4, e1, e2, e3, e4⟩ := p_route (g := fun _ => 0) hV (fun a _ => by constructor <;> decide) d4 d3
  cases b5 with
  | false => exact absurd ⟨fun _ => 0, fun a _ _ => by simp⟩ (e3 rfl)
  | true =>
    obtain ⟨-, ex0, h0, hI, hE⟩ := e4 rfl
    exact ⟨σ3, σ4, d1, e1, e2.N d4, e2.L d3, ex0, h0 (fun _ _ => rfl), hI, hE⟩
theorem p_amount (hV : fl_V n fr to cp cs sp) {σ : fl_St} (hN : cl_N σ n fr to cp cs sp) :
    ∃ (r : Int32) (σ' : fl_St), f_X2_amount σ = some (r, σ') ∧ cl_N σ' n fr to cp cs sp ∧ am_I n fr to cp sp r.toInt := by
  obtain ⟨σ1, σ2, a1, a2, a3, a4, ex0, a5, hI, S, s1, s2, s3⟩ := p_free hV hN
  have hsp := hV.2.2.2
  have hb9 : ∀ v, v < 8 → -1000 ≤ rv σ2 9 v ∧ rv σ2 9 v ≤ 1000 := by
    intro v hv
    obtain ⟨q1, q2⟩ := hI.2.2.2.1 v hv
    rw [a5 v hv] at q1 q2
    have q3 := hsp v hv
    rcases Int.le_total 0 (sp v) with q | q
    · have := q1 q; omega
    · have := q2 q; omega
  obtain ⟨r1, c1, c2⟩ := p_sum (fi := 4) (Or.inl rfl) (σ := σ2) (fun v hv => by rw [show rv σ2 4 v = sp v from a3.2.2 v hv]; have := hsp v hv; omega)
  obtain ⟨r2, c3, c4⟩ := p_sum (fi := 9) (Or.inr rfl) hb9
  have p1 : fl_pos (rv σ2 4) = fl_pos sp := fl_S_congr (fun v hv => by rw [show rv σ2 4 v = sp v from a3.2.2 v hv])
  have b0 := fl_pos_0 (rv σ2 9)
  have b1 := fl_pos_0 sp
  have b2 : fl_pos sp ≤ fl_S 8 (fun _ => 30) := fl_S_le (fun v hv => by have := hsp v hv; split <;> omega)
  have b3 : fl_pos (rv σ2 9) ≤ fl_S 8 (fun _ => 1000) := fl_S_le (fun v hv => by have := hb9 v hv; split <;> omega)
  rw [fl_S_cst] at b2 b3
  unfold f_X2_amount f_X0_totalSupply f_X1_totalExcess
  rw [a1, fl_bs, a2, fl_b2s, c1, fl_bs, fl_bs, c3, fl_bs, fl_bs]
  refine ⟨_, σ2, rfl, a3, ?_⟩
  rw [i_sub (by omega) (by omega), c2, c4, p1]
  obtain ⟨s, hs⟩ := fl_ind S
  have h01 : ∀ v, s v = 0 ∨ s v = 1 := fun v => by
    by_cases c : S v
    · exact Or.inr ((hs v).1 c)
    · exact Or.inl ((hs v).2 c)
  have hS1 : ∀ v, s v = 1 → S v := fun v q => Classical.byContradiction fun c => by
    have := (hs v).2 c
    omega
  obtain ⟨k1, k2⟩ := rt_cut hI h01 (fun j hj o q => (hs _).1 (s3 j hj o (hS1 _ q)))
  obtain ⟨m1, m2⟩ := am_eq hV.2.1 hI.2.1 h01 (fun v hv q => (hs v).1 (s1 v hv q)) (fun v hv q => (hs v).2 (s2 v hv q)) k1 k2
  exact ⟨⟨s, m1, m2⟩, fun t ht => am_le hV.2.1 (rt_bd hV hI) hI.2.1 ht⟩
end AMOUNT
