/-! pure rows: sendOnce -/
def fl_pos (ex : Nat → Int) : Int := fl_S 8 (fun v => if 0 < ex v then ex v else 0)
theorem fl_pos_0 (ex : Nat → Int) : 0 ≤ fl_pos ex := fl_S_nonneg (fun v _ => by split <;> omega)
theorem fl_pos_le {ex : Nat → Int} {v : Nat} (hv : v < 8) (h : fl_pos ex ≤ 0) : ex v ≤ 0 := by
  have h1 : fl_S 8 (fun i => if i = v then (fun j => if 0 < ex j then ex j else 0) i else 0) ≤ fl_pos ex := fl_S_le (fun i _ => by
    by_cases e : i = v
    · rw [if_pos e]; exact Int.le_refl _
    · rw [if_neg e]; split <;> omega)
  rw [fl_S_pick hv] at h1
  by_cases c : 0 < ex v
  · rw [if_pos c] at h1; omega
  · omega
theorem fl_pos_mv {ex : Nat → Int} {s e : Nat} {u : Int} (hs : s < 8) (hse : s ≠ e) (h1 : 0 ≤ u) (h2 : u ≤ ex s) (h3 : u ≤ -ex e) : fl_pos (fl_up (fl_up ex s (ex s - u)) e (ex e + u)) = fl_pos ex - u := by
  unfold fl_pos
  have h : fl_S 8 (fun v => if 0 < fl_up (fl_up ex s (ex s - u)) e (ex e + u) v then fl_up (fl_up ex s (ex s - u)) e (ex e + u) v else 0) = fl_S 8 (fl_up (fun v => if 0 < ex v then ex v else 0) s ((if 0 < ex s then ex s else 0) - u)) :=
    fl_S_congr (fun v _ => by
      by_cases c1 : v = e
      · subst c1
        rw [fl_up_s, fl_up_n _ _ (fun q => hse q.symm)]
        split <;> split <;> omega
      · rw [fl_up_n _ _ c1]
        by_cases c2 : v = s
        · subst c2
          rw [fl_up_s, fl_up_s]
          split <;> split <;> omega
        · rw [fl_up_n _ _ c2, fl_up_n _ _ c2])
  rw [h, fl_S_up hs]
  omega
theorem fl_bnd_ex (f : Nat → Int) : ∀ m : Nat, ∃ K : Int, ∀ i, i < m → f i ≤ K := by
  intro m
  induction m with
  | zero => exact ⟨0, fun i hi => by omega⟩
  | succ m ih =>
    obtain ⟨K, hK⟩ := ih
    by_cases c : f m ≤ K
    · exact ⟨K, fun i hi => by
        by_cases e : i = m
        · rw [e]; exact c
        · exact hK i (by omega)⟩
    · exact ⟨f m, fun i hi => by
        by_cases e : i = m
        · rw [e]; exact Int.le_refl _
        · have := hK i (by omega); omega⟩
def rt_I (n : Nat) (fr to : Nat → Nat) (cp g sp ex0 ρ ex : Nat → Int) : Prop :=
  rm_I n cp ρ ∧ (∀ v, v < 8 → ex v = sp v - fl_div n fr to (xo ρ) v) ∧ (∃ pt, bf_Pot (2 * n) (fun j => 0 < ρ j) (lk_tl fr to) (lk_hd fr to) (lk_w g) pt) ∧
  (∀ v, v < 8 → (0 ≤ ex0 v → 0 ≤ ex v ∧ ex v ≤ ex0 v) ∧ (ex0 v ≤ 0 → ex0 v ≤ ex v ∧ ex v ≤ 0)) ∧ (∀ a, a < n → cp a = -1 → ρ (2 * a + 1) + fl_pos ex ≤ 840) ∧ fl_pos ex ≤ 840
/-- what is over cannot get to where something is wanting -/
def rt_E (n : Nat) (fr to : Nat → Nat) (ρ ex : Nat → Int) : Prop :=
  ∃ S : Nat → Prop, (∀ v, v < 8 → 0 < ex v → S v) ∧ (∀ v, v < 8 → ex v < 0 → ¬ S v) ∧ ∀ j, j < 2 * n → 0 < ρ j → S (lk_tl fr to j) → S (lk_hd fr to j)
def cl_F4 (σ σ' : fl_St) : Prop := ∀ k, k < 8 ∨ k = 12 → σ' k = σ k
theorem cl_F4.N {σ σ' : fl_St} (h : cl_F4 σ σ') {n : Nat} {fr to : Nat → Nat} {cp cs sp : Nat → Int} (hN : cl_N σ n fr to cp cs sp) : cl_N σ' n fr to cp cs sp := hN.mv (fun k q => h k (by omega))
theorem cl_F4.L {σ σ' : fl_St} (h : cl_F4 σ σ') {n : Nat} {fr to : Nat → Nat} {w : Nat → Int} (hl : cl_L σ n fr to w) : cl_L σ' n fr to w := hl.mv (h 5 (by omega)) (h 6 (by omega)) (h 7 (by omega)) (h 12 (by omega))
theorem rv_k {σ σ' : fl_St} {k : Nat} (h : σ' k = σ k) : rv σ' k = rv σ k := by
  funext v
  show (σ' k v).toInt = (σ k v).toInt
  rw [h]
/-- a potential of what has room behind a sending: the distances, and far above them what was not reached -/
theorem pt_next {n : Nat} {fr to : Nat → Nat} {w d ρ0 ρ : Nat → Int} (hp : ∃ pt, bf_Pot (2 * n) (fun j => 0 < ρ0 j) (lk_tl fr to) (lk_hd fr to) w pt)
    (hd : ∀ j, j < 2 * n → 0 < ρ0 j → d (lk_tl fr to j) < 1000000000 → d (lk_hd fr to j) ≤ d (lk_tl fr to j) + w j ∧ d (lk_hd fr to j) < 1000000000)
    (h4 : ∀ i, i < 2 * n → 0 < ρ i → 0 < ρ0 i ∨ (d (lk_tl fr to i) < 1000000000 ∧ d (lk_hd fr to i) < 1000000000 ∧ d (lk_hd fr to i) = d (lk_tl fr to i) + w i)) :
    ∃ pt, bf_Pot (2 * n) (fun j => 0 < ρ j) (lk_tl fr to) (lk_hd fr to) w pt := by
  obtain ⟨pt, hpt⟩ := hp
  obtain ⟨K, hK⟩ := fl_bnd_ex (fun j => d (lk_hd fr to j) - pt (lk_tl fr to j) - w j) (2 * n)
  refine ⟨fun v => if d v < 1000000000 then d v else pt v + K, fun j hj ho => ?_⟩
  show (if d (lk_hd fr to j) < 1000000000 then d (lk_hd fr to j) else pt (lk_hd fr to j) + K) ≤ (if d (lk_tl fr to j) < 1000000000 then d (lk_tl fr to j) else pt (lk_tl fr to j) + K) + w j
  rcases h4 j hj ho with h | ⟨h1, h2, h3⟩
  · by_cases c : d (lk_tl fr to j) < 1000000000
    · obtain ⟨h1, h2⟩ := hd j hj h c
      rw [if_pos c, if_pos h2]
      exact h1
    · rw [if_neg c]
      have k1 : d (lk_hd fr to j) - pt (lk_tl fr to j) - w j ≤ K := hK j hj
      have k2 : pt (lk_hd fr to j) ≤ pt (lk_tl fr to j) + w j := hpt j hj h
      split <;> omega
  · rw [if_pos h1, if_pos h2]; omega
section ONCE
variable {n : Nat} {fr to : Nat → Nat} {cp cs sp g ex0 : Nat → Int}
theorem p_sendOnce (hV : fl_V n fr to cp cs sp) (hg : ∀ j, j < 2 * n → -50461 ≤ lk_w g j ∧ lk_w g j ≤ 50461) (hx0 : ∀ v, v < 8 → -1000 ≤ ex0 v ∧ ex0 v ≤ 1000) {σ : fl_St} (hN : cl_N σ n fr to cp cs sp) (hl : cl_L σ n fr to (lk_w g)) (hI : rt_I n fr to cp g sp ex0 (rv σ 8) (rv σ 9)) :
    ∃ (b : Bool) (σ' : fl_St), f_X1_sendOnce σ = some (b2i b, σ') ∧ cl_F4 σ σ' ∧ rt_I n fr to cp g sp ex0 (rv σ' 8) (rv σ' 9) ∧
      (b = true → fl_pos (rv σ' 9) + 1 ≤ fl_pos (rv σ 9)) ∧ (b = false → rt_E n fr to (rv σ' 8) (rv σ' 9)) := by
  have hn := hV.1
  have ha := hV.2.1
  obtain ⟨hR, hE, hp, hsg, hub, hpl⟩ := id hI
  obtain ⟨σ2, a1, a2, a3⟩ := p_startX σ
  have e8 : rv σ2 8 = rv σ 8 := rv_k (a2 8 (by decide) (by decide))
  have e9 : rv σ2 9 = rv σ 9 := rv_k (a2 9 (by decide) (by decide))
  have hop : ∀ j, j < 2 * n → (cl_op σ2 (-1) j ↔ 0 < rv σ 8 j) := fun j hj => by
    rw [← e8]
    exact ⟨fun q => q.1, fun q => ⟨q, nI_m1 (by omega)⟩⟩
  have hp2 : ∃ pt, bf_Pot (2 * n) (cl_op σ2 (-1)) (lk_tl fr to) (lk_hd fr to) (lk_w g) pt := by
    obtain ⟨pt, hpt⟩ := hp
    exact ⟨pt, fun j hj ho => hpt j hj ((hop j hj).mp ho)⟩
  obtain ⟨T', σ4, b1, b2, b3, z1, z2, z3, ⟨tm, z4⟩, z5⟩ := p_measure (x1 := -1) hn ha hg (a2.L hl) (fun v hv => by rw [(a3 v hv).1]; split; exact Or.inr rfl; exact Or.inl rfl) (fun v hv => (a3 v hv).2) hp2
  have F4 : cl_F σ σ4 := a2.tr b2
  have l4 := F4.L hl
  have f8 : rv σ4 8 = rv σ 8 := rv_k (F4 8 (by decide) (by decide))
  have f9 : rv σ4 9 = rv σ 9 := rv_k (F4 9 (by decide) (by decide))
  have hT : (50461 : Int) * (T' : Int) ≤ 50461 * 400 := Int.mul_le_mul_of_nonneg_left (by omega) (by decide)
  have hfix : ∀ j, j < 2 * n → 0 < rv σ 8 j → rv σ4 10 (lk_tl fr to j) < 1000000000 → rv σ4 10 (lk_hd fr to j) ≤ rv σ4 10 (lk_tl fr to j) + lk_w g j ∧ rv σ4 10 (lk_hd fr to j) < 1000000000 := by
    intro j hj ho hd
    have h1 := z3 j hj ((hop j hj).mpr ho) hd
    have h2 := z5 _ (lk_in ha hj).1 hd
    have h3 := hg j hj
    exact ⟨h1, by omega⟩
  obtain ⟨r, c1, c2⟩ := p_near σ4
  unfold f_X1_sendOnce
  rw [a1, fl_bs, b1, fl_bs, c1, fl_bs]
  rcases c2 with ⟨rfl, c2⟩ | ⟨e, he, rfl, hex, hde⟩
  · rw [if_pos rfl]
    refine ⟨false, σ4, rfl, fun k hk => F4 k (by omega) (by omega), by rw [f8, f9]; exact hI, (fun h => by cases h), fun _ => ?_⟩
    refine ⟨fun v => rv σ4 10 v < 1000000000, ?_, ?_, ?_⟩
    · intro v hv h
      have h1 := z1 v hv
      rw [(a3 v hv).1, if_pos (by rw [← f9]; exact h)] at h1
      show rv σ4 10 v < 1000000000
      omega
    · intro v hv h hS
      have := c2 v hv h
      have hS : rv σ4 10 v < 1000000000 := hS
      omega
    · intro j hj ho hS
      exact (hfix j hj (by rw [← f8]; exact ho) hS).2
  · rw [if_neg (nI_m1 (by omega))]
    have hexe := hex
    rw [f9] at hexe
    have hse := (hsg e he).2
    have hs0 := hx0 e he
    have hsg1 : ∀ v, v < 8 → -1000 ≤ rv σ 9 v ∧ rv σ 9 v ≤ 1000 := by
      intro v hv
      obtain ⟨q1, q2⟩ := hsg v hv
      have q3 := hx0 v hv
      rcases Int.le_total 0 (ex0 v) with q | q
      · have := q1 q; omega
      · have := q2 q; omega
    have hb9e := hsg1 e he
    have hneg : (-(σ4 9 e)).toInt = -rv σ 9 e := by
      rw [← f9]
      exact i_neg (by show _ ≤ rv σ4 9 e; rw [f9]; omega)
    have hZ : ck_Z (2 * n) (fun j => 0 < rv σ4 8 j) (lk_tl fr to) (lk_hd fr to) (lk_w g) (rv σ4 10) (rv σ4 11) tm := by
      intro v hv hne
      obtain ⟨y1, j, y2, y3, y4, y5, y6, y7, y8⟩ := z4 v hv hne
      exact ⟨y1, j, y2, y3, by rw [f8]; exact (hop j y2).mp y4, y5, y6, y7, y8⟩
    have hcm := fl_cnt_max (n := 8) (t := tm) he
    obtain ⟨u', s, k, w1, w2, w3, w4, w5, w6, w7, w8⟩ := p_way hn ha l4 hZ (fun j h => h) (nI e) fl_N 0 e (-(σ4 9 e)) he hde (by omega) (by unfold fl_N; omega) (by rw [hneg]; omega)
    have w1 : f_X1_sendOnce_l34 (nI e) σ4 fl_N (-(σ4 9 e)) (nI e) 0 = some (u', nI s) := w1
    rw [fl_rd_n he (by omega), fl_bs, w1, fl_b2s, fl_rd_n w2 (by omega), fl_bs, fl_bs]
    have hexs : 0 < rv σ 9 s := by
      have q := z2 s w2 w4
      rw [(a3 s w2).1] at q
      by_cases c : 0 < rv σ 9 s
      · exact c
      · rw [if_neg c] at q; omega
    have hb9s := hsg1 s w2
    have hse : s ≠ e := fun q => by subst q; omega
    obtain ⟨u, eu, u1, u2, u3⟩ : ∃ u : Int32, (if σ4 9 s < u' then σ4 9 s else u') = u ∧ 1 ≤ u.toInt ∧ u.toInt ≤ rv σ 9 s ∧ u.toInt ≤ u'.toInt := by
      have q : (σ4 9 s).toInt = rv σ 9 s := by rw [← f9]
      by_cases c : σ4 9 s < u'
      · rw [if_pos c]
        rw [i_lt] at c
        exact ⟨_, rfl, by omega, by omega, by omega⟩
      · rw [if_neg c]
        rw [i_lt] at c
        exact ⟨_, rfl, by omega, by omega, by omega⟩
    rw [eu, fl_wr_n w2 (by omega), fl_bs, fl_rd_n he (by omega), fl_bs, fl_wr_n he (by omega), fl_bs, st_j _ _ _ (fun q => hse q.symm)]
    have hk9 : ∀ k, k ≠ 9 → st (st σ4 9 s (σ4 9 s - u)) 9 e (σ4 9 e + u) k = σ4 k := fun k hk => by rw [st_k _ _ _ hk, st_k _ _ _ hk]
    have eE : rv (st (st σ4 9 s (σ4 9 s - u)) 9 e (σ4 9 e + u)) 9 = fl_up (fl_up (rv σ 9) s (rv σ 9 s - u.toInt)) e (rv σ 9 e + u.toInt) := by
      rw [rv_st, rv_st, f9]
      have q1 : (σ4 9 s).toInt = rv σ 9 s := by rw [← f9]
      have q2 : (σ4 9 e).toInt = rv σ 9 e := by rw [← f9]
      rw [i_sub (by omega) (by omega), i_add (by omega) (by omega), q1, q2]
    generalize st (st σ4 9 s (σ4 9 s - u)) 9 e (σ4 9 e + u) = σ5 at hk9 eE ⊢
    have l5 : cl_L σ5 n fr to (lk_w g) := l4.mv (hk9 5 (by decide)) (hk9 6 (by decide)) (hk9 7 (by decide)) (hk9 12 (by decide))
    have g8 : rv σ5 8 = rv σ 8 := (rv_k (hk9 8 (by decide))).trans f8
    have hcU : ∀ a, a < n → cU cp a ≤ 1680 := fun a ha2 => by
      have := (hV.2.2.1 a ha2).1
      unfold cU
      split <;> omega
    obtain ⟨σ6, p1, p2, p3⟩ := p_along (cp := cp) (sp := sp) (E := rv σ5 9) (ρ0 := rv σ 8) (u := u) hn ha hZ (by omega) (by omega) hcU k fl_N 0 e σ5 he
      (ck_mono (fun j q => by have q : u'.toInt ≤ rv σ4 8 j := q; rw [f8] at q; omega) k e s w7) (by omega) (by unfold fl_N; omega) l5 (rv_k (hk9 11 (by decide)))
      (by
        rw [g8]
        refine ⟨hR, ?_, fun _ _ _ _ => rfl, fun _ _ h => Or.inl h, fun _ _ => by omega⟩
        intro q hq
        rw [← hE q hq, eE]
        by_cases q1 : q = e
        · subst q1
          rw [fl_up_s, if_neg (fun x => hse x.symm), if_pos rfl]; omega
        · rw [fl_up_n _ _ q1, if_neg q1]
          by_cases q2 : q = s
          · subst q2
            rw [fl_up_s, if_pos rfl]; omega
          · rw [fl_up_n _ _ q2, if_neg q2]; omega)
    have p1 : f_X1_sendAlongPath_l5 u fl_N (nI e) 0 σ5 = some σ6 := p1
    unfold f_X1_sendAlongPath
    rw [p1, fl_bs, fl_bs]
    obtain ⟨r1, r2, r3, r4, r5⟩ := p3
    have g9 : rv σ6 9 = rv σ5 9 := rv_k (p2 9 (by decide))
    have hpos : fl_pos (rv σ6 9) = fl_pos (rv σ 9) - u.toInt := by
      rw [g9, eE]
      exact fl_pos_mv w2 hse (by omega) u2 (by omega)
    refine ⟨true, σ6, rfl, fun k hk => ?_, ⟨r1, ?_, pt_next hp hfix r4, ?_, ?_, by omega⟩, fun _ => by omega, (fun h => by cases h)⟩
    · rw [p2 k (by omega), hk9 k (by omega)]
      exact F4 k (by omega) (by omega)
    · intro v hv
      have := r2 v hv
      rw [g9]
      split at this <;> omega
    · intro v hv
      have hv1 := hsg v hv
      rw [g9, eE]
      by_cases q1 : v = e
      · subst q1
        rw [fl_up_s]
        constructor
        · intro q
          have := hv1.1 q
          omega
        · intro q
          have := hv1.2 q
          omega
      · rw [fl_up_n _ _ q1]
        by_cases q2 : v = s
        · subst q2
          rw [fl_up_s]
          constructor
          · intro q
            have := hv1.1 q
            omega
          · intro q
            have := hv1.2 q
            omega
        · rw [fl_up_n _ _ q2]
          exact hv1
    · intro a ha2 hc
      have q1 := hub a ha2 hc
      have q2 := r5 (2 * a + 1) (by omega)
      omega
end ONCE
