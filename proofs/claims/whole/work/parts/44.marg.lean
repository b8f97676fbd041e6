/-! pure rows: canReach, and what one unit more costs -/
section REACH
variable {n : Nat} {fr to : Nat → Nat} {w : Nat → Int}
theorem ck_ex {m : Nat} {op : Nat → Prop} {tl hd : Nat → Nat} {w d en : Nat → Int} {tm : Nat → Nat} (htl : ∀ j, j < m → tl j < 8) (hZ : ck_Z m op tl hd w d en tm) : ∀ (N v : Nat), tm v < N → v < 8 → d v < 1000000000 → ∃ k s, ck en tl op k v s ∧ s < 8 ∧ d s < 1000000000 ∧ en s = -1 := by
  intro N
  induction N with
  | zero => intro v h; omega
  | succ N ih =>
    intro v hN hv hd
    by_cases c : en v = -1
    · exact ⟨0, v, ⟨rfl, c⟩, hv, hd, c⟩
    · obtain ⟨y1, j, y2, y3, y4, y5, y6, y7, y8⟩ := hZ v hv c
      obtain ⟨k, s, q1, q2, q3, q4⟩ := ih (tl j) (by omega) (htl j y2) y6
      exact ⟨k + 1, s, ⟨j, y3, y4, q1⟩, q2, q3, q4⟩
/-- what canReach leaves -/
def re_I (n : Nat) (fr to : Nat → Nat) (w d en : Nat → Int) (op : Nat → Prop) (u : Nat) : Prop :=
  d u = 0 ∧ (∀ j, j < 2 * n → op j → d (lk_tl fr to j) < 1000000000 → d (lk_hd fr to j) ≤ d (lk_tl fr to j) + w j ∧ d (lk_hd fr to j) < 1000000000) ∧
  (∃ tm, ck_Z (2 * n) op (lk_tl fr to) (lk_hd fr to) w d en tm) ∧ (∀ s, s < 8 → d s < 1000000000 → en s = -1 → s = u) ∧ ∀ v, v < 8 → d v < 1000000000 → -20184400 ≤ d v ∧ d v ≤ 20184400
theorem p_canReach (hn : n ≤ 20) (ha : fl_Ar 8 n fr to) (hw : ∀ j, j < 2 * n → -50461 ≤ w j ∧ w j ≤ 50461) {σ : fl_St} (hl : cl_L σ n fr to w) {x3 : Int32} (hp : ∃ pt, bf_Pot (2 * n) (cl_op σ x3) (lk_tl fr to) (lk_hd fr to) w pt) {u v : Nat} (hu : u < 8) (hv : v < 8) :
    ∃ (b : Bool) (σ' : fl_St), f_X1_canReach (nI u) (nI v) x3 σ = some (b2i b, σ') ∧ cl_F σ σ' ∧ (b = true ↔ rv σ' 10 v < 1000000000) ∧ re_I n fr to w (rv σ' 10) (rv σ' 11) (cl_op σ x3) u := by
  obtain ⟨σ1, a1, a2, a3⟩ := p_startR_in hu (nI v) x3 fl_N 0 σ (by omega) (by unfold fl_N; omega) (fun v hv => by omega)
  have eop := a2.op x3
  obtain ⟨T', σ2, b1, b2, b3, z1, z2, z3, ⟨tm, z4⟩, z5⟩ := p_measure (x1 := x3) hn ha hw (a2.L hl) (fun v hv => by rw [(a3 v hv).1]; split; exact Or.inr rfl; exact Or.inl rfl) (fun v hv => (a3 v hv).2) (by rw [eop]; exact hp)
  rw [eop] at z3 z4
  have hT : (50461 : Int) * (T' : Int) ≤ 50461 * 400 := Int.mul_le_mul_of_nonneg_left (by omega) (by decide)
  have hbd : ∀ v, v < 8 → rv σ2 10 v < 1000000000 → -20184400 ≤ rv σ2 10 v ∧ rv σ2 10 v ≤ 20184400 := fun v hv hd => by
    have := z5 v hv hd
    omega
  have hroot : ∀ s, s < 8 → rv σ2 10 s < 1000000000 → rv σ2 11 s = -1 → s = u := by
    intro s hs hd he
    have q := z2 s hs he
    rw [(a3 s hs).1] at q
    by_cases c : s = u
    · exact c
    · rw [if_neg c] at q; omega
  have hZ : ck_Z (2 * n) (cl_op σ x3) (lk_tl fr to) (lk_hd fr to) w (rv σ2 10) (rv σ2 11) tm := z4
  have hdu : rv σ2 10 u = 0 := by
    have h1 := z1 u hu
    rw [(a3 u hu).1, if_pos rfl] at h1
    have hlt : rv σ2 10 u < 1000000000 := by omega
    obtain ⟨k, s, q1, q2, q3, q4⟩ := ck_ex (fun j hj => (lk_in ha hj).1) hZ (tm u + 1) u (by omega) hu hlt
    have := hroot s q2 q3 q4
    subst this
    have q := z2 s hu q4
    rw [(a3 s hu).1, if_pos rfl] at q
    exact q
  have e : ((1000000000 : Int32) ≤ σ2 10 v) ↔ ¬ rv σ2 10 v < 1000000000 := by
    rw [i_le]
    have : (1000000000 : Int32).toInt = 1000000000 := by decide
    show _ ↔ ¬ (σ2 10 v).toInt < 1000000000
    omega
  have hre : re_I n fr to w (rv σ2 10) (rv σ2 11) (cl_op σ x3) u := by
    refine ⟨hdu, fun j hj ho hd => ?_, ⟨tm, hZ⟩, hroot, hbd⟩
    have h1 := z3 j hj ho hd
    have h2 := hbd _ (lk_in ha hj).1 hd
    have h3 := hw j hj
    exact ⟨h1, by omega⟩
  unfold f_X1_canReach
  rw [show f_X1_canReach_l3 (nI u) (nI v) x3 fl_N 0 σ = some σ1 from a1, fl_bs, b1, fl_bs, fl_rd_n hv (by omega), fl_bs]
  by_cases c : rv σ2 10 v < 1000000000
  · rw [if_neg (fun q => (e.mp q) c), fl_bs]
    exact ⟨true, σ2, rfl, a2.tr b2, ⟨fun _ => c, fun _ => rfl⟩, hre⟩
  · rw [if_pos (e.mpr c), fl_bs]
    exact ⟨false, σ2, rfl, a2.tr b2, ⟨(fun q => by cases q), fun q => absurd q c⟩, hre⟩
end REACH
theorem fl_m1 (p A : Int) (c1 c2 : Prop) [Decidable c1] [Decidable c2] : p * (A + (if c1 then 1 else 0) - (if c2 then 1 else 0)) = p * A + ((if c1 then p else 0) - (if c2 then p else 0)) := by
  split <;> split <;> simp [Int.mul_add, Int.mul_sub] <;> omega
section MARG
variable {n : Nat} {fr to : Nat → Nat} {cp cs sp g : Nat → Int}
theorem pu_path (ha : fl_Ar 8 n fr to) {op : Nat → Prop} {tm : Nat → Nat} {d en ρ0 E : Nat → Int} (hZ : ck_Z (2 * n) op (lk_tl fr to) (lk_hd fr to) (lk_w g) d en tm) {u : Int} (h0 : 0 ≤ u) {s : Nat} :
    ∀ (k v : Nat) (ρ : Nat → Int), v < 8 → ck en (lk_tl fr to) (fun j => u ≤ ρ0 j) k v s → pu_I n fr to cp g sp d tm ρ0 E u s v ρ → ∃ ρ', pu_I n fr to cp g sp d tm ρ0 E u s s ρ' := by
  intro k
  induction k with
  | zero =>
    intro v ρ hv hk hI
    obtain ⟨rfl, -⟩ := hk
    exact ⟨ρ, hI⟩
  | succ k ih =>
    intro v ρ hv hk hI
    obtain ⟨j, j0, jP, hk⟩ := hk
    obtain ⟨dv, j', j1, j2, j3, j4, j5, j6, j7⟩ := hZ v hv (by omega)
    obtain rfl : j' = j := by omega
    exact ih _ _ (lk_in ha j1).1 hk (hI.step ha h0 j1 j4 j7 j5 dv j6 jP)
/-- node numbers for what has room before and behind a sending alike -/
theorem pt_next2 {w d ρ0 : Nat → Int} (hp : ∃ pt, bf_Pot (2 * n) (fun j => 0 < ρ0 j) (lk_tl fr to) (lk_hd fr to) w pt)
    (hd : ∀ j, j < 2 * n → 0 < ρ0 j → d (lk_tl fr to j) < 1000000000 → d (lk_hd fr to j) ≤ d (lk_tl fr to j) + w j ∧ d (lk_hd fr to j) < 1000000000) :
    ∃ pt : Nat → Int, (∀ v, d v < 1000000000 → pt v = d v) ∧ ∀ ρ : Nat → Int, (∀ i, i < 2 * n → 0 < ρ i → 0 < ρ0 i ∨ (d (lk_tl fr to i) < 1000000000 ∧ d (lk_hd fr to i) < 1000000000 ∧ d (lk_hd fr to i) = d (lk_tl fr to i) + w i)) →
      bf_Pot (2 * n) (fun j => 0 < ρ j) (lk_tl fr to) (lk_hd fr to) w pt := by
  obtain ⟨pt, hpt⟩ := hp
  obtain ⟨K, hK⟩ := fl_bnd_ex (fun j => d (lk_hd fr to j) - pt (lk_tl fr to j) - w j) (2 * n)
  refine ⟨fun v => if d v < 1000000000 then d v else pt v + K, fun v h => if_pos h, fun ρ h4 j hj ho => ?_⟩
  show (if d (lk_hd fr to j) < 1000000000 then d (lk_hd fr to j) else pt (lk_hd fr to j) + K) ≤ (if d (lk_tl fr to j) < 1000000000 then d (lk_tl fr to j) else pt (lk_tl fr to j) + K) + w j
  rcases h4 j hj ho with h | ⟨h1, h2, h3⟩
  · by_cases c : d (lk_tl fr to j) < 1000000000
    · obtain ⟨h1, h2⟩ := hd j hj h c
      rw [if_pos c, if_pos h2]
      exact h1
    · rw [if_neg c]
      have k1 : d (lk_hd fr to j) - pt (lk_tl fr to j) - w j ≤ K := hK j hj
      have k2 : pt (lk_hd fr to j) ≤ pt (lk_tl fr to j) + w j := hpt j hj h
      split <;> omega
  · rw [if_pos h1, if_pos h2]; omega
theorem rm_slk {ρ pt : Nat → Int} (hR : rm_I n cp ρ) (hu : ∀ a, a < n → cp a = -1 → 0 < ρ (2 * a)) (hpt : bf_Pot (2 * n) (fun j => 0 < ρ j) (lk_tl fr to) (lk_hd fr to) (lk_w g) pt) : fl_Slk n fr to cp g pt (xo ρ) := by
  intro a ha
  obtain ⟨h1, h2, h3⟩ := hR a ha
  refine ⟨fun q => ?_, fun q => ?_⟩
  · have hc : ¬ 0 < ρ (2 * a) := fun o => by
      have := hpt (2 * a) (by omega) o
      rw [lk_t0, lk_h0, lk_w0] at this
      omega
    have hb : cp a ≠ -1 := fun e => hc (hu a ha e)
    unfold cU at h3
    rw [if_neg hb] at h3
    exact ⟨hb, by show ρ (2 * a + 1) = _; omega⟩
  · have : ¬ 0 < ρ (2 * a + 1) := fun o => by
      have := hpt (2 * a + 1) (by omega) o
      rw [lk_t1, lk_h1, lk_w1] at this
      omega
    show ρ (2 * a + 1) = 0
    omega
theorem rm_bd {ρ : Nat → Int} (h : rm_I n cp ρ) : fl_Bd n cp (xo ρ) := by
  intro a ha
  obtain ⟨h1, h2, h3⟩ := h a ha
  refine ⟨h2, ?_⟩
  by_cases c : cp a = -1
  · exact Or.inl c
  · right
    unfold cU at h3
    rw [if_neg c] at h3
    show ρ (2 * a + 1) ≤ _
    omega
abbrev sp1 (sp : Nat → Int) (u v : Nat) : Nat → Int := fun q => sp q + (if q = u then 1 else 0) - (if q = v then 1 else 0)
theorem p_marg (hV : fl_V n fr to cp cs sp) {σ : fl_St} (hS : cl_So σ n fr to cp cs sp) {u v : Nat} (hu : u < 8) (hv : v < 8) :
    ∃ (b : Bool) (σ' : fl_St), f_X1_canReach (nI u) (nI v) (-1) σ = some (b2i b, σ') ∧ cl_F σ σ' ∧
      (b = true → ∃ y, fl_Op n fr to cp cs (sp1 sp u v) y ∧ fl_cost n cs y = fl_cost n cs (xo (rv σ 8)) + rv σ' 10 v ∧ (∀ a, a < n → 0 ≤ y a ∧ y a ≤ 841) ∧ -20184400 ≤ rv σ' 10 v ∧ rv σ' 10 v ≤ 20184400) ∧ (b = false → ¬ ∃ y, fl_Fs n fr to cp (sp1 sp u v) y) := by
  obtain ⟨hl, ⟨ex0, hI⟩, h0⟩ := hS
  have hn := hV.1
  have ha := hV.2.1
  have hw : ∀ j, j < 2 * n → -50461 ≤ lk_w cs j ∧ lk_w cs j ≤ 50461 := by
    intro j hj
    have := hV.2.2.1 (j / 2) (by omega)
    unfold lk_w
    split <;> omega
  have hop : ∀ j, j < 2 * n → (cl_op σ (-1) j ↔ 0 < rv σ 8 j) := fun j hj => ⟨fun q => q.1, fun q => ⟨q, nI_m1 (by omega)⟩⟩
  have hp2 : ∃ pt, bf_Pot (2 * n) (cl_op σ (-1)) (lk_tl fr to) (lk_hd fr to) (lk_w cs) pt := by
    obtain ⟨pt, hpt⟩ := hI.2.2.1
    exact ⟨pt, fun j hj ho => hpt j hj ((hop j hj).mp ho)⟩
  obtain ⟨b, σ', e1, e2, e3, d0, d1, ⟨tm, d2⟩, d3, d4⟩ := p_canReach hn ha hw hl hp2 hu hv
  have hfix : ∀ j, j < 2 * n → 0 < rv σ 8 j → rv σ' 10 (lk_tl fr to j) < 1000000000 → rv σ' 10 (lk_hd fr to j) ≤ rv σ' 10 (lk_tl fr to j) + lk_w cs j ∧ rv σ' 10 (lk_hd fr to j) < 1000000000 := fun j hj ho hd => d1 j hj ((hop j hj).mpr ho) hd
  have hunb : ∀ a, a < n → cp a = -1 → rv σ 8 (2 * a + 1) ≤ 840 := fun a h c => by
    have := hI.2.2.2.2.1 a h c
    have := fl_pos_0 (rv σ 9)
    omega
  have hbal : ∀ q, q < 8 → fl_div n fr to (xo (rv σ 8)) q = sp q := fun q hq => by
    have := hI.2.1 q hq
    have := h0 q hq
    omega
  refine ⟨b, σ', e1, e2, fun hb => ?_, fun hb => ?_⟩
  · have hd := e3.mp hb
    obtain ⟨pt, p1, p2⟩ := pt_next2 hI.2.2.1 hfix
    obtain ⟨k, s, q1, q2, q3, q4⟩ := ck_ex (fun j hj => (lk_in ha hj).1) d2 (tm v + 1) v (by omega) hv hd
    have hsu := d3 s q2 q3 q4
    rw [hsu] at q1
    have hZ : ck_Z (2 * n) (fun j => 0 < rv σ 8 j) (lk_tl fr to) (lk_hd fr to) (lk_w cs) (rv σ' 10) (rv σ' 11) tm := by
      intro v hv hne
      obtain ⟨y1, j, y2, y3, y4, y5, y6, y7, y8⟩ := d2 v hv hne
      exact ⟨y1, j, y2, y3, y4.1, y5, y6, y7, y8⟩
    obtain ⟨ρ', r1, r2, r3, r4, r5⟩ := pu_path (cp := cp) (sp := sp) (ρ0 := rv σ 8) (E := fun q => (if q = v then 1 else 0) - (if q = u then 1 else 0)) (u := 1) ha hZ (by decide) k v (rv σ 8) hv
      (ck_mono (fun j q => by have := q.1; show 1 ≤ rv σ 8 j; have h : 0 < rv σ 8 j := this; omega) k v u q1)
      ⟨hI.1, fun q hq => by rw [hbal q hq]; show _ = (if q = v then 1 else 0) - (if q = u then 1 else 0) + (if q = u then 1 else 0) - (if q = v then 1 else 0); omega, fun _ _ _ _ => rfl, fun _ _ h => Or.inl h, fun _ _ => by omega⟩
    have hu' : ∀ a, a < n → cp a = -1 → 0 < ρ' (2 * a) := fun a h c => by
      have h1 := hunb a h c
      have h2 := r5 (2 * a + 1) (by omega)
      have h3 := (r1 a h).2.2
      unfold cU at h3
      rw [if_pos c] at h3
      omega
    have hu0 : ∀ a, a < n → cp a = -1 → 0 < rv σ 8 (2 * a) := fun a h c => by
      have h1 := hunb a h c
      have h3 := (hI.1 a h).2.2
      unfold cU at h3
      rw [if_pos c] at h3
      omega
    have s1 := rm_slk (g := cs) r1 hu' (p2 ρ' r4)
    have s0 := rm_slk (g := cs) hI.1 hu0 (p2 _ (fun _ _ h => Or.inl h))
    have hdiv : ∀ q, q < 8 → fl_div n fr to (xo ρ') q = sp1 sp u v q := fun q hq => by
      have := r2 q hq
      have e : sp q - fl_div n fr to (xo ρ') q = (if q = v then 1 else 0) - (if q = u then 1 else 0) + (if q = u then 1 else 0) - (if q = u then 1 else 0) := this
      show _ = sp q + (if q = u then 1 else 0) - (if q = v then 1 else 0)
      omega
    refine ⟨xo ρ', fl_opt ha ⟨rm_bd r1, hdiv⟩ s1, ?_, (fun a h => by
      have h2 := r5 (2 * a + 1) (by omega)
      obtain ⟨h4, h5, h3⟩ := r1 a h
      refine ⟨h5, ?_⟩
      show ρ' (2 * a + 1) ≤ 841
      by_cases c : cp a = -1
      · have h1 := hunb a h c
        omega
      · have := (hV.2.2.1 a h).1
        unfold cU at h3
        rw [if_neg c] at h3
        omega), d4 v hv hd⟩
    have w1 := fl_weak (N := 8) (cap := cp) ha.w (rm_bd r1) s0
    have w2 := fl_weak (N := 8) (cap := cp) ha.w (rm_bd hI.1) s1
    have hs : fl_S 8 (fun q => pt q * fl_div n fr to (xo ρ') q) = fl_S 8 (fun q => pt q * fl_div n fr to (xo (rv σ 8)) q) + (pt u - pt v) := by
      have h1 : fl_S 8 (fun q => pt q * fl_div n fr to (xo ρ') q) = fl_S 8 (fun q => pt q * fl_div n fr to (xo (rv σ 8)) q + ((if q = u then pt q else 0) - (if q = v then pt q else 0))) := fl_S_congr (fun q hq => by
        rw [hdiv q hq, hbal q hq]
        show pt q * (sp q + (if q = u then 1 else 0) - (if q = v then 1 else 0)) = _
        exact fl_m1 _ _ _ _)
      rw [h1, fl_S_add, fl_S_sub, fl_S_pick hu, fl_S_pick hv]
    have pu0 : pt u = 0 := by rw [p1 u (by rw [d0]; decide), d0]
    have pv0 : pt v = rv σ' 10 v := p1 v hd
    omega
  · rintro ⟨y, hy⟩
    have hd : ¬ rv σ' 10 v < 1000000000 := fun q => by
      have := e3.mpr q
      rw [hb] at this
      cases this
    obtain ⟨s, hs⟩ := fl_ind (fun q => rv σ' 10 q < 1000000000)
    have h01 : ∀ v, s v = 0 ∨ s v = 1 := fun v => by
      by_cases c : rv σ' 10 v < 1000000000
      · exact Or.inr ((hs v).1 c)
      · exact Or.inl ((hs v).2 c)
    have hS1 : ∀ v, s v = 1 → rv σ' 10 v < 1000000000 := fun v q => Classical.byContradiction fun c => by
      have := (hs v).2 c
      omega
    obtain ⟨k1, k2⟩ := rt_cut hI h01 (fun j hj o q => (hs _).1 (hfix j hj o (hS1 _ q)).2)
    have hc := fl_cut (cp := cp) (x := xo (rv σ 8)) ha h01 hy.1 k1 k2
    have e1 : fl_S 8 (fun q => s q * fl_div n fr to y q) = fl_S 8 (fun q => s q * fl_div n fr to (xo (rv σ 8)) q) + (s u - s v) := by
      have h1 : fl_S 8 (fun q => s q * fl_div n fr to y q) = fl_S 8 (fun q => s q * fl_div n fr to (xo (rv σ 8)) q + ((if q = u then s q else 0) - (if q = v then s q else 0))) := fl_S_congr (fun q hq => by
        rw [hy.2 q hq, hbal q hq]
        show s q * (sp q + (if q = u then 1 else 0) - (if q = v then 1 else 0)) = _
        exact fl_m1 _ _ _ _)
      rw [h1, fl_S_add, fl_S_sub, fl_S_pick hu, fl_S_pick hv]
    have su := (hs u).1 (by show rv σ' 10 u < 1000000000; rw [d0]; decide)
    have sv := (hs v).2 hd
    omega
end MARG
