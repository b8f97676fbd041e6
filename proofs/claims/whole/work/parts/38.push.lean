/-! pure rows: one unit or more sent along the way -/
def lk_r (j : Nat) : Nat := if j % 2 = 0 then j + 1 else j - 1
theorem nI_x1 : ∀ j, j < 40 → nI j ^^^ 1 = nI (lk_r j) := by decide +kernel
theorem lk_r_lt {n j : Nat} (h : j < 2 * n) : lk_r j < 2 * n := by unfold lk_r; split <;> omega
theorem lk_r_ne (j : Nat) : lk_r j ≠ j := by unfold lk_r; split <;> omega
theorem lk_r_r (j : Nat) : lk_r (lk_r j) = j := by unfold lk_r; split <;> split <;> omega
theorem lk_r_t (fr to : Nat → Nat) (j : Nat) : lk_tl fr to (lk_r j) = lk_hd fr to j := by
  unfold lk_tl lk_hd lk_r
  by_cases e : j % 2 = 0
  · rw [if_pos e, if_pos e, if_neg (by omega), show (j + 1) / 2 = j / 2 by omega]
  · rw [if_neg e, if_neg e, if_pos (by omega), show (j - 1) / 2 = j / 2 by omega]
theorem lk_r_h (fr to : Nat → Nat) (j : Nat) : lk_hd fr to (lk_r j) = lk_tl fr to j := by
  unfold lk_tl lk_hd lk_r
  by_cases e : j % 2 = 0
  · rw [if_pos e, if_pos e, if_neg (by omega), show (j + 1) / 2 = j / 2 by omega]
  · rw [if_neg e, if_neg e, if_pos (by omega), show (j - 1) / 2 = j / 2 by omega]
theorem lk_r_w (g : Nat → Int) (j : Nat) : lk_w g (lk_r j) = -lk_w g j := by
  unfold lk_w lk_r
  by_cases e : j % 2 = 0
  · rw [if_pos e, if_pos e, if_neg (by omega), show (j + 1) / 2 = j / 2 by omega]
  · rw [if_neg e, if_neg e, if_pos (by omega), show (j - 1) / 2 = j / 2 by omega]; omega
/-- what the arcs have, out of the rooms -/
abbrev xo (ρ : Nat → Int) : Nat → Int := fun a => ρ (2 * a + 1)
def pu (ρ : Nat → Int) (j : Nat) (u : Int) : Nat → Int := fl_up (fl_up ρ j (ρ j - u)) (lk_r j) (ρ (lk_r j) + u)
theorem pu_j (ρ : Nat → Int) (j : Nat) (u : Int) : pu ρ j u j = ρ j - u := by unfold pu; rw [fl_up_n _ _ (lk_r_ne j).symm, fl_up_s]
theorem pu_r (ρ : Nat → Int) (j : Nat) (u : Int) : pu ρ j u (lk_r j) = ρ (lk_r j) + u := by unfold pu; rw [fl_up_s]
theorem pu_n (ρ : Nat → Int) {j i : Nat} (u : Int) (h1 : i ≠ j) (h2 : i ≠ lk_r j) : pu ρ j u i = ρ i := by unfold pu; rw [fl_up_n _ _ h2, fl_up_n _ _ h1]
theorem pu_div {n : Nat} {fr to : Nat → Nat} (ρ : Nat → Int) {j : Nat} (hj : j < 2 * n) (u : Int) (v : Nat) :
    fl_div n fr to (xo (pu ρ j u)) v = fl_div n fr to (xo ρ) v + ((if lk_tl fr to j = v then u else 0) - (if lk_hd fr to j = v then u else 0)) := by
  by_cases e : j % 2 = 0
  · obtain ⟨a, rfl⟩ : ∃ a, j = 2 * a := ⟨j / 2, by omega⟩
    have er : lk_r (2 * a) = 2 * a + 1 := by unfold lk_r; rw [if_pos (by omega)]
    have h1 : fl_div n fr to (xo (pu ρ (2 * a) u)) v = fl_div n fr to (fl_up (xo ρ) a (xo ρ a + u)) v := fl_div_congr (fun b hb => by
      by_cases e2 : b = a
      · subst e2
        rw [fl_up_s]
        show pu ρ (2 * b) u (2 * b + 1) = ρ (2 * b + 1) + u
        have := pu_r ρ (2 * b) u
        rwa [er] at this
      · rw [fl_up_n _ _ e2]
        show pu ρ (2 * a) u (2 * b + 1) = ρ (2 * b + 1)
        exact pu_n _ _ (by omega) (by rw [er]; omega)) v
    rw [h1, fl_div_up (by omega), lk_t0, lk_h0, show xo ρ a + u - xo ρ a = u by omega]
  · obtain ⟨a, rfl⟩ : ∃ a, j = 2 * a + 1 := ⟨j / 2, by omega⟩
    have er : lk_r (2 * a + 1) = 2 * a := by unfold lk_r; rw [if_neg (by omega)]; omega
    have h1 : fl_div n fr to (xo (pu ρ (2 * a + 1) u)) v = fl_div n fr to (fl_up (xo ρ) a (xo ρ a - u)) v := fl_div_congr (fun b hb => by
      by_cases e2 : b = a
      · subst e2
        rw [fl_up_s]
        exact pu_j ρ (2 * b + 1) u
      · rw [fl_up_n _ _ e2]
        show pu ρ (2 * a + 1) u (2 * b + 1) = ρ (2 * b + 1)
        exact pu_n _ _ (by omega) (by rw [er]; omega)) v
    rw [h1, fl_div_up (by omega), lk_t1, lk_h1, show xo ρ a - u - xo ρ a = -u by omega]
    split <;> split <;> omega
/-- the rooms of an arc are its capacity together -/
def rm_I (n : Nat) (cp ρ : Nat → Int) : Prop := ∀ a, a < n → 0 ≤ ρ (2 * a) ∧ 0 ≤ ρ (2 * a + 1) ∧ ρ (2 * a) + ρ (2 * a + 1) = cU cp a
theorem rm_I.lk {n : Nat} {cp ρ : Nat → Int} (h : rm_I n cp ρ) {j : Nat} (hj : j < 2 * n) : 0 ≤ ρ j ∧ 0 ≤ ρ (lk_r j) ∧ ρ j + ρ (lk_r j) = cU cp (j / 2) := by
  by_cases e : j % 2 = 0
  · obtain ⟨a, rfl⟩ : ∃ a, j = 2 * a := ⟨j / 2, by omega⟩
    rw [show lk_r (2 * a) = 2 * a + 1 by unfold lk_r; rw [if_pos (by omega)], show 2 * a / 2 = a by omega]
    exact h a (by omega)
  · obtain ⟨a, rfl⟩ : ∃ a, j = 2 * a + 1 := ⟨j / 2, by omega⟩
    rw [show lk_r (2 * a + 1) = 2 * a by unfold lk_r; rw [if_neg (by omega)]; omega, show (2 * a + 1) / 2 = a by omega]
    have := h a (by omega)
    exact ⟨this.2.1, this.1, by omega⟩
theorem rm_I.pu {n : Nat} {cp ρ : Nat → Int} (h : rm_I n cp ρ) {j : Nat} (hj : j < 2 * n) {u : Int} (h0 : 0 ≤ u) (hu : u ≤ ρ j) : rm_I n cp (pu ρ j u) := by
  intro a ha
  have hr : ∀ i, i = 2 * a ∨ i = 2 * a + 1 → (lk_r i = 2 * a ∨ lk_r i = 2 * a + 1) := by intro i hi; unfold lk_r; split <;> omega
  obtain ⟨b1, b2, b3⟩ := h a ha
  obtain ⟨c1, c2, c3⟩ := h.lk hj
  by_cases e : j / 2 = a
  · rcases (show j = 2 * a ∨ j = 2 * a + 1 by omega) with rfl | rfl
    · have er : lk_r (2 * a) = 2 * a + 1 := by unfold lk_r; rw [if_pos (by omega)]
      have p1 := pu_j ρ (2 * a) u
      have p2 := pu_r ρ (2 * a) u
      rw [er] at p2
      rw [p1, p2]
      omega
    · have er : lk_r (2 * a + 1) = 2 * a := by unfold lk_r; rw [if_neg (by omega)]; omega
      have p1 := pu_j ρ (2 * a + 1) u
      have p2 := pu_r ρ (2 * a + 1) u
      rw [er] at p2
      rw [p1, p2]
      omega
  · have n1 : lk_r j / 2 = j / 2 := by unfold lk_r; split <;> omega
    rw [pu_n ρ u (by omega) (by omega), pu_n ρ u (by omega) (by omega)]
    exact ⟨b1, b2, b3⟩
section PUSH
variable {n : Nat} {fr to : Nat → Nat} {cp g sp : Nat → Int} {tm : Nat → Nat} {op : Nat → Prop}
theorem fl_ifc (a b : Nat) (u : Int) : (if a = b then u else 0) = (if b = a then u else 0) := by
  by_cases e : a = b
  · rw [if_pos e, if_pos e.symm]
  · rw [if_neg e, if_neg (fun q => e q.symm)]
/-- while u units go along the way to s: at node v -/
def pu_I (n : Nat) (fr to : Nat → Nat) (cp g sp d : Nat → Int) (tm : Nat → Nat) (ρ0 E : Nat → Int) (u : Int) (s v : Nat) (ρ : Nat → Int) : Prop :=
  rm_I n cp ρ ∧ (∀ q, q < 8 → sp q - fl_div n fr to (xo ρ) q = E q + (if q = s then u else 0) - (if q = v then u else 0)) ∧
  (∀ i, i < 2 * n → tm (lk_tl fr to i) ≤ tm v → tm (lk_hd fr to i) ≤ tm v → ρ i = ρ0 i) ∧
  (∀ i, i < 2 * n → 0 < ρ i → 0 < ρ0 i ∨ (d (lk_tl fr to i) < 1000000000 ∧ d (lk_hd fr to i) < 1000000000 ∧ d (lk_hd fr to i) = d (lk_tl fr to i) + lk_w g i)) ∧ ∀ i, i < 2 * n → ρ i ≤ ρ0 i + u
theorem pu_I.step (ha : fl_Ar 8 n fr to) {d ρ0 E ρ : Nat → Int} {u : Int} {s v : Nat} (h0 : 0 ≤ u) (h : pu_I n fr to cp g sp d tm ρ0 E u s v ρ) {j : Nat} (hj : j < 2 * n) (hh : lk_hd fr to j = v) (ht : tm (lk_tl fr to j) < tm v)
    (hd1 : d (lk_tl fr to j) < 1000000000) (hd2 : d v < 1000000000) (hd : d v = d (lk_tl fr to j) + lk_w g j) (hu : u ≤ ρ0 j) : pu_I n fr to cp g sp d tm ρ0 E u s (lk_tl fr to j) (pu ρ j u) := by
  obtain ⟨i1, i2, i3, i4, i5⟩ := h
  obtain ⟨k1, k2, k3⟩ := lk_in ha hj
  have hρ : ρ j = ρ0 j := i3 j hj (by omega) (by rw [hh]; omega)
  have hr : lk_r j < 2 * n := lk_r_lt hj
  have hρr : ρ (lk_r j) = ρ0 (lk_r j) := i3 _ hr (by rw [lk_r_t, hh]; omega) (by rw [lk_r_h]; omega)
  refine ⟨i1.pu hj h0 (by omega), ?_, ?_, ?_, ?_⟩
  · intro q hq
    rw [pu_div ρ hj u q, hh]
    have := i2 q hq
    rw [fl_ifc (lk_tl fr to j) q, fl_ifc v q]
    omega
  · intro i hi a b
    have n1 : i ≠ j := fun e => by subst e; rw [hh] at b; omega
    have n2 : i ≠ lk_r j := fun e => by subst e; rw [lk_r_t, hh] at a; omega
    rw [pu_n _ _ n1 n2]
    exact i3 i hi (by omega) (by omega)
  · intro i hi hp
    by_cases n1 : i = j
    · subst n1
      rw [pu_j] at hp
      exact i4 i hi (by omega)
    · by_cases n2 : i = lk_r j
      · right
        subst n2
        rw [lk_r_t, lk_r_h, lk_r_w, hh]
        exact ⟨hd2, hd1, by omega⟩
      · rw [pu_n _ _ n1 n2] at hp
        exact i4 i hi hp
  · intro i hi
    by_cases n1 : i = j
    · subst n1; rw [pu_j]; omega
    · by_cases n2 : i = lk_r j
      · subst n2; rw [pu_r]; omega
      · rw [pu_n _ _ n1 n2]; exact i5 i hi
theorem p_along (hn : n ≤ 20) (ha : fl_Ar 8 n fr to) {d en ρ0 E : Nat → Int} (hZ : ck_Z (2 * n) op (lk_tl fr to) (lk_hd fr to) (lk_w g) d en tm) {u : Int32} (h0 : 0 ≤ u.toInt) (hu : u.toInt ≤ 1000) (hcp : ∀ a, a < n → cU cp a ≤ 1680) {s : Nat} :
    ∀ (k f stp v : Nat) (σ : fl_St), v < 8 → ck en (lk_tl fr to) (fun j => u.toInt ≤ ρ0 j) k v s → k + stp ≤ 7 → 8 - stp < f → cl_L σ n fr to (lk_w g) → rv σ 11 = en → pu_I n fr to cp g sp d tm ρ0 E u.toInt s v (rv σ 8) →
      ∃ σ', f_X1_sendAlongPath_l5 u f (nI v) (nI stp) σ = some σ' ∧ (∀ k, k ≠ 8 → σ' k = σ k) ∧ pu_I n fr to cp g sp d tm ρ0 E u.toInt s s (rv σ' 8) := by
  intro k
  induction k with
  | zero =>
    intro f stp v σ hv hk h7 hf hl he hI
    obtain ⟨rfl, hk⟩ := hk
    cases f with
    | zero => omega
    | succ f =>
      refine ⟨σ, ?_, fun _ _ => rfl, hI⟩
      rw [f_X1_sendAlongPath_l5, if_neg (nI_8 (by omega)), fl_rd_n hv (by omega), fl_bs, if_pos ((i_m1 (c := en v) (by rw [← he])).mpr hk)]
  | succ k ih =>
    intro f stp v σ hv hk h7 hf hl he hI
    obtain ⟨j, j0, jP, hk⟩ := hk
    cases f with
    | zero => omega
    | succ f =>
      have hne : en v ≠ -1 := by omega
      obtain ⟨dv, j', j1, j2, j3, j4, j5, j6, j7⟩ := hZ v hv hne
      obtain rfl : j' = j := by omega
      obtain ⟨k1, k2, k3⟩ := lk_in ha j1
      have e11 : σ 11 v = nI j' := by
        rw [i_eq, nI_t (by omega), ← j2, ← he]
      have hr := lk_r_lt j1
      obtain ⟨b1, b2, b3⟩ := hI.1.lk j1
      have b4 := hcp (j' / 2) (by omega)
      rw [f_X1_sendAlongPath_l5, if_neg (nI_8 (by omega)), fl_rd_n hv (by omega), fl_bs, if_neg (by rw [e11]; exact nI_m1 (by omega)), fl_bs, e11, fl_rd_n (by omega) (by omega), fl_bs, fl_wr_n (by omega) (by omega), fl_bs, nI_x1 j' (by omega), fl_rd_n (by omega) (by omega), fl_bs, fl_wr_n (by omega) (by omega), fl_bs, fl_rd_n (by omega) (by omega), fl_bs, nI_1]
      rw [st_k (k := 8) (k' := 5) _ _ _ (by decide), st_k (k := 8) (k' := 5) _ _ _ (by decide), (hl.2 j' j1).1, st_j _ _ _ (lk_r_ne j')]
      have hk8 : ∀ k, k ≠ 8 → st (st σ 8 j' (σ 8 j' - u)) 8 (lk_r j') (σ 8 (lk_r j') + u) k = σ k := fun k hk => by rw [st_k _ _ _ hk, st_k _ _ _ hk]
      have e8 : rv (st (st σ 8 j' (σ 8 j' - u)) 8 (lk_r j') (σ 8 (lk_r j') + u)) 8 = pu (rv σ 8) j' u.toInt := by
        rw [rv_st, rv_st, i_sub (by show _ ≤ rv σ 8 j' - _; omega) (by show rv σ 8 j' - _ ≤ _; omega), i_add (by show _ ≤ rv σ 8 (lk_r j') + _; omega) (by show rv σ 8 (lk_r j') + _ ≤ _; omega)]
        rfl
      obtain ⟨σ', z1, z2, z3⟩ := ih f (stp + 1) (lk_tl fr to j') _ k1 hk (by omega) (by omega) (hl.mv (hk8 5 (by decide)) (hk8 6 (by decide)) (hk8 7 (by decide)) (hk8 12 (by decide))) (by rw [rv_sk _ _ _ (by decide), rv_sk _ _ _ (by decide)]; exact he) (by rw [e8]; exact hI.step ha h0 j1 j4 j7 j5 dv j6 jP)
      exact ⟨σ', z1, fun q hq => (z2 q hq).trans (hk8 q hq), z3⟩
end PUSH
