/-! pure rows: the reference: isReached, its loops -/
theorem bw_p {k : Nat} (h : k < 1000) : bw (nI k).toInt = ((2 * k : Nat) : Int) := by
  rw [nI_t (by omega)]
  unfold bw
  rw [if_pos (by omega)]
  omega
theorem bw_m {k : Nat} (h : k < 1000) : bw (-1 - nI k : Int32).toInt = ((2 * k + 1 : Nat) : Int) := by
  rw [nI_neg h]
  unfold bw
  rw [if_neg (by omega)]
  omega
section BFS2
variable {M : Nat} {fr to : Nat → Nat} {C f : Nat → Int} {al : Nat → Prop} {fi : Nat} {src : Nat}
theorem p_bfs_step (hfi : fi = 5 ∨ fi = 6) {σ : fl_St} (hX : ex_N σ M fr to C al) (hf : rv σ fi = f) (hb : ∀ k, k < M → 0 ≤ f k ∧ f k ≤ C k) {k u mn at_ : Nat} {ps : Nat → Nat} (hk : k < M) (hu : u < 10) (hu7 : σ 7 u = 1) (hpu : ps u = at_) (hQ : bq_Q M fr to (o2 C f al) src mn ps σ) (hP : bq_P M fr to (o2 C f al) at_ k ps σ) (x3 x5 : Int32) (F : Nat) :
    ∃ (mn' : Nat) (ps' : Nat → Nat) (σ' : fl_St), f_X3_isReached_l66 fi x3 x5 (nI u) (F + 1) (nI mn) (nI k) σ = f_X3_isReached_l66 fi x3 x5 (nI u) F (nI mn') (nI (k + 1)) σ' ∧ bq_F σ σ' ∧ bq_Q M fr to (o2 C f al) src mn' ps' σ' ∧ bq_P M fr to (o2 C f al) at_ (k + 1) ps' σ' ∧ (∀ x, x < 10 → σ 7 x = 1 → σ' 7 x = 1 ∧ ps' x = ps x) ∧ mn ≤ mn' := by
  obtain ⟨t, et, ht⟩ := p_leftFrom hfi hX hf hb hk hu
  have hX0 := hX
  obtain ⟨h13, hM, ha, hX⟩ := hX
  obtain ⟨q0, q1, -, -, -, -⟩ := hX k hk
  obtain ⟨a1, a2, a3⟩ := ha k hk
  have z : (0 : Int32).toInt = 0 := by decide
  have n01 : (1 : Int32) ≠ 0 := by decide
  rw [f_X3_isReached_l66, h13, if_neg (nI_ge hk (by omega)), fl_rd_n (by omega) (by omega), fl_bs, q0, et, nI_1 k]
  -- nothing is entered
  have hstay : (∀ j, j / 2 = k → j < 2 * M → o2 C f al j → lk_tl fr to j = u → σ 7 (lk_hd fr to j) = 1) → bq_P M fr to (o2 C f al) at_ (k + 1) ps σ := by
    intro h j hj ho h7 hc
    by_cases c : ps (lk_tl fr to j) = at_ ∧ j / 2 = k
    · refine h j c.2 hj ho ?_
      have e1 : lk_tl fr to j < 10 := (lk_in ha hj).1
      rcases hQ.2.2.1 _ e1 with e | ⟨-, -, e⟩
      · rw [e] at h7; exact absurd h7 (by decide)
      · rcases hQ.2.2.1 _ hu with e' | ⟨-, -, e'⟩
        · rw [e'] at hu7; exact absurd hu7 (by decide)
        · rw [c.1] at e
          rw [hpu] at e'
          rw [e] at e'
          exact (nI_eq (by omega) (by omega)).mp e'
    · exact hP j hj ho h7 (by omega)
  -- a node is entered by the link j
  have hgo : ∀ (j v : Nat) (y : Int32), j / 2 = k → j < 2 * M → o2 C f al j → lk_tl fr to j = u → lk_hd fr to j = v → v < 10 → σ 7 v = 0 → bw y.toInt = (j : Int) → (∀ i, i / 2 = k → i < 2 * M → lk_tl fr to i = u → i = j) →
      mn < 10 ∧ ∃ ps' : Nat → Nat, bq_Q M fr to (o2 C f al) src (mn + 1) ps' (st (st (st σ 7 v 1) 11 v y) 12 mn (nI v)) ∧ bq_P M fr to (o2 C f al) at_ (k + 1) ps' (st (st (st σ 7 v 1) 11 v y) 12 mn (nI v)) ∧ ∀ x, x < 10 → σ 7 x = 1 → st (st (st σ 7 v 1) 11 v y) 12 mn (nI v) 7 x = 1 ∧ ps' x = ps x := by
    intro j v y hjk hj ho htl hhd hv h0 hy honly
    obtain ⟨r1, r2, r3⟩ := bq_new hQ hj ho hhd hv (by rw [htl]; exact hu7) (by rw [htl]; exact hu) h0 hy
    have h7 : ∀ x, st (st (st σ 7 v 1) 11 v y) 12 mn (nI v) 7 x = if x = v then 1 else σ 7 x := fun x => by
      rw [st_k (k' := 7) _ _ _ (by decide), st_k (k' := 7) _ _ _ (by decide), st_v]
    refine ⟨r1, _, r2, ?_, fun x hx hx7 => ⟨?_, r3 x hx hx7⟩⟩
    · intro i hi hoi hi7 hc
      have hc : (if lk_tl fr to i = v then mn else ps (lk_tl fr to i)) < at_ ∨ ((if lk_tl fr to i = v then mn else ps (lk_tl fr to i)) = at_ ∧ i / 2 < k + 1) := hc
      rw [h7] at hi7 ⊢
      by_cases c : lk_hd fr to i = v
      · rw [if_pos c]
      · rw [if_neg c]
        by_cases c2 : lk_tl fr to i = v
        · rw [if_pos c2] at hc
          have hpv : ps u < mn := by
            rcases hQ.2.2.1 _ hu with e' | ⟨-, e', -⟩
            · rw [e'] at hu7; exact absurd hu7 (by decide)
            · exact e'
          omega
        · rw [if_neg c2] at hi7 hc
          by_cases c3 : ps (lk_tl fr to i) = at_ ∧ i / 2 = k
          · have e1 : lk_tl fr to i < 10 := (lk_in ha hi).1
            have e2 : lk_tl fr to i = u := by
              rcases hQ.2.2.1 _ e1 with e | ⟨-, -, e⟩
              · rw [e] at hi7; exact absurd hi7 (by decide)
              · rcases hQ.2.2.1 _ hu with e' | ⟨-, -, e'⟩
                · rw [e'] at hu7; exact absurd hu7 (by decide)
                · rw [c3.1] at e
                  rw [hpu] at e'
                  rw [e] at e'
                  exact (nI_eq (by omega) (by omega)).mp e'
            have := honly i c3.2 hi e2
            rw [this, hhd] at c
            exact absurd rfl c
          · exact hP i hi hoi hi7 (by omega)
    · rw [h7]
      split
      · rfl
      · exact hx7
  have hbF : ∀ (v : Nat) (y : Int32), bq_F σ (st (st (st σ 7 v 1) 11 v y) 12 mn (nI v)) := fun v y k h1 h2 h3 => by rw [st_k _ _ _ h3, st_k _ _ _ h2, st_k _ _ _ h1]
  rcases ht with ⟨hfu, ht⟩ | ⟨hfu, htu, ht⟩ | ⟨hfu, htu, ht⟩
  · rw [if_pos (by rw [hfu]), fl_rd_n (by omega) (by omega), fl_bs, q1, fl_bs, fl_bs]
    by_cases c : 0 < t.toInt
    · rw [if_neg (by rw [i_le, z]; omega), fl_rd_n (by omega) (by omega), fl_bs]
      have ho := ht.mp c
      rcases hQ.2.2.1 _ a2 with e | ⟨e, -⟩
      · rw [if_pos e, fl_wr_n (by omega) (by omega), fl_bs, fl_rd_n (by omega) (by omega), fl_bs, st_k _ _ _ (by decide), q0, if_pos (by rw [hfu]), fl_bs, fl_wr_n (by omega) (by omega), fl_bs]
        obtain ⟨r1, ps', r2, r3, r4⟩ := hgo (2 * k) (to k) (nI k) (by omega) (by omega) ho (by rw [lk_t0]; exact hfu) (lk_h0 _ _ _) a2 e (bw_p (by omega)) (fun i h1 h2 h3 => by
          rcases (show i = 2 * k ∨ i = 2 * k + 1 by omega) with rfl | rfl
          · rfl
          · rw [lk_t1] at h3; omega)
        rw [fl_wr_n r1 (by omega), fl_bs, fl_b2s, nI_1]
        exact ⟨mn + 1, ps', _, rfl, hbF _ _, r2, r3, r4, by omega⟩
      · rw [if_neg (by rw [e]; exact n01), fl_b2s]
        refine ⟨mn, ps, σ, rfl, bq_F.rf, hQ, hstay (fun j h1 h2 h3 h4 => ?_), fun x _ h => ⟨h, rfl⟩, by omega⟩
        rcases (show j = 2 * k ∨ j = 2 * k + 1 by omega) with rfl | rfl
        · rw [lk_h0]; exact e
        · rw [lk_t1] at h4; omega
    · rw [if_pos (by rw [i_le, z]; omega), fl_b2s]
      refine ⟨mn, ps, σ, rfl, bq_F.rf, hQ, hstay (fun j h1 h2 h3 h4 => ?_), fun x _ h => ⟨h, rfl⟩, by omega⟩
      rcases (show j = 2 * k ∨ j = 2 * k + 1 by omega) with rfl | rfl
      · exact absurd (ht.mpr h3) c
      · rw [lk_t1] at h4; omega
  · rw [if_neg (fun q => hfu ((nI_eq (by omega) (by omega)).mp q)), fl_bs, fl_bs, fl_bs]
    by_cases c : 0 < t.toInt
    · rw [if_neg (by rw [i_le, z]; omega), fl_rd_n (by omega) (by omega), fl_bs]
      have ho := ht.mp c
      rcases hQ.2.2.1 _ a1 with e | ⟨e, -⟩
      · rw [if_pos e, fl_wr_n (by omega) (by omega), fl_bs, fl_rd_n (by omega) (by omega), fl_bs, st_k _ _ _ (by decide), q0, if_neg (fun q => hfu ((nI_eq (by omega) (by omega)).mp q)), fl_bs, fl_wr_n (by omega) (by omega), fl_bs]
        obtain ⟨r1, ps', r2, r3, r4⟩ := hgo (2 * k + 1) (fr k) (-1 - nI k) (by omega) (by omega) ho (by rw [lk_t1]; exact htu) (lk_h1 _ _ _) a1 e (bw_m (by omega)) (fun i h1 h2 h3 => by
          rcases (show i = 2 * k ∨ i = 2 * k + 1 by omega) with rfl | rfl
          · rw [lk_t0] at h3; exact absurd h3 hfu
          · rfl)
        rw [fl_wr_n r1 (by omega), fl_bs, fl_b2s, nI_1]
        exact ⟨mn + 1, ps', _, rfl, hbF _ _, r2, r3, r4, by omega⟩
      · rw [if_neg (by rw [e]; exact n01), fl_b2s]
        refine ⟨mn, ps, σ, rfl, bq_F.rf, hQ, hstay (fun j h1 h2 h3 h4 => ?_), fun x _ h => ⟨h, rfl⟩, by omega⟩
        rcases (show j = 2 * k ∨ j = 2 * k + 1 by omega) with rfl | rfl
        · rw [lk_t0] at h4; exact absurd h4 hfu
        · rw [lk_h1]; exact e
    · rw [if_pos (by rw [i_le, z]; omega), fl_b2s]
      refine ⟨mn, ps, σ, rfl, bq_F.rf, hQ, hstay (fun j h1 h2 h3 h4 => ?_), fun x _ h => ⟨h, rfl⟩, by omega⟩
      rcases (show j = 2 * k ∨ j = 2 * k + 1 by omega) with rfl | rfl
      · rw [lk_t0] at h4; exact absurd h4 hfu
      · exact absurd (ht.mpr h3) c
  · rw [if_neg (fun q => hfu ((nI_eq (by omega) (by omega)).mp q)), fl_bs, fl_bs, fl_bs, if_pos (by rw [i_le, z]; omega), fl_b2s]
    refine ⟨mn, ps, σ, rfl, bq_F.rf, hQ, hstay (fun j h1 h2 h3 h4 => ?_), fun x _ h => ⟨h, rfl⟩, by omega⟩
    rcases (show j = 2 * k ∨ j = 2 * k + 1 by omega) with rfl | rfl
    · rw [lk_t0] at h4; exact absurd h4 hfu
    · rw [lk_t1] at h4; exact absurd h4 htu
theorem p_bfs_in (hfi : fi = 5 ∨ fi = 6) (hb : ∀ k, k < M → 0 ≤ f k ∧ f k ≤ C k) {u at_ : Nat} (hu : u < 10) (x3 x5 : Int32) :
    ∀ (F k mn : Nat) (ps : Nat → Nat) (σ : fl_St), k ≤ M → M - k < F → ex_N σ M fr to C al → rv σ fi = f → σ 7 u = 1 → ps u = at_ → bq_Q M fr to (o2 C f al) src mn ps σ → bq_P M fr to (o2 C f al) at_ k ps σ →
      ∃ (mn' : Nat) (ps' : Nat → Nat) (σ' : fl_St), f_X3_isReached_l66 fi x3 x5 (nI u) F (nI mn) (nI k) σ = some (nI mn', σ') ∧ bq_F σ σ' ∧ bq_Q M fr to (o2 C f al) src mn' ps' σ' ∧ bq_P M fr to (o2 C f al) at_ M ps' σ' ∧ mn ≤ mn' := by
  intro F
  induction F with
  | zero => intro k mn ps σ h1 h2; omega
  | succ F ih =>
    intro k mn ps σ h1 h2 hX hf hu7 hpu hQ hP
    by_cases c : k = M
    · subst c
      exact ⟨mn, ps, σ, by rw [f_X3_isReached_l66, hX.1, if_pos (nI_le (Nat.le_refl _) (by have := hX.2.1; omega))], bq_F.rf, hQ, hP, Nat.le_refl _⟩
    · obtain ⟨mn1, ps1, σ1, e1, e2, e3, e4, e5, e6⟩ := p_bfs_step hfi hX hf hb (show k < M by omega) hu hu7 hpu hQ hP x3 x5 F
      rw [e1]
      obtain ⟨z1, z2⟩ := e5 u hu hu7
      obtain ⟨mn', ps', σ', y1, y2, y3, y4, y5⟩ := ih (k + 1) mn1 ps1 σ1 (by omega) (by omega) (e2.X hX) (e2.fl hfi hf) z1 (z2.trans hpu) e3 e4
      exact ⟨mn', ps', σ', y1, e2.tr y2, y3, y4, by omega⟩
theorem p_bfs_out (hfi : fi = 5 ∨ fi = 6) (hb : ∀ k, k < M → 0 ≤ f k ∧ f k ≤ C k) (x3 : Int32) :
    ∀ (F at_ mn : Nat) (ps : Nat → Nat) (σ : fl_St), at_ ≤ mn → 11 - at_ < F → ex_N σ M fr to C al → rv σ fi = f → bq_Q M fr to (o2 C f al) src mn ps σ → bq_P M fr to (o2 C f al) at_ 0 ps σ →
      ∃ (ps' : Nat → Nat) (mn' : Nat) (σ' : fl_St), f_X3_isReached_l47 fi x3 F (nI mn) (nI at_) σ = some σ' ∧ bq_F σ σ' ∧ bq_Q M fr to (o2 C f al) src mn' ps' σ' ∧ ∀ j, j < 2 * M → o2 C f al j → σ' 7 (lk_tl fr to j) = 1 → σ' 7 (lk_hd fr to j) = 1 := by
  intro F
  induction F with
  | zero => intro at_ mn ps σ h1 h2 _ _ hQ; have := hQ.2.1; omega
  | succ F ih =>
    intro at_ mn ps σ h1 h2 hX hf hQ hP
    have hm10 := hQ.2.1
    by_cases c : at_ = mn
    · refine ⟨ps, mn, σ, by rw [f_X3_isReached_l47, c, if_pos (nI_le (Nat.le_refl _) (by omega))], bq_F.rf, hQ, fun j hj ho h7 => ?_⟩
      refine hP j hj ho h7 (Or.inl ?_)
      rcases hQ.2.2.1 _ (lk_in hX.2.2.1 hj).1 with e | ⟨-, e, -⟩
      · rw [e] at h7; exact absurd h7 (by decide)
      · omega
    · obtain ⟨u, u1, u2, u3, u4⟩ := hQ.2.2.2.1 at_ (by omega)
      rw [f_X3_isReached_l47, if_neg (nI_ge (by omega) (by omega)), fl_rd_n (by omega) (by omega), fl_bs, u2]
      obtain ⟨mn1, ps1, σ1, e1, e2, e3, e4, e5⟩ := p_bfs_in hfi hb u1 x3 (nI at_) fl_N 0 mn ps σ (by omega) (by have := hX.2.1; unfold fl_N; omega) hX hf u3 u4 hQ hP
      rw [show f_X3_isReached_l66 fi x3 (nI at_) (nI u) fl_N (nI mn) 0 σ = some (nI mn1, σ1) from e1, fl_b2s, nI_1]
      have hM := hX.2.1
      obtain ⟨ps', mn', σ', y1, y2, y3, y4⟩ := ih (at_ + 1) mn1 ps1 σ1 (by omega) (by omega) (e2.X hX) (e2.fl hfi hf) e3 (fun j hj ho h7 hc => e4 j hj ho h7 (by omega))
      exact ⟨ps', mn', σ', y1, e2.tr y2, y3, y4⟩
theorem p_bfs_z (x3 : Int32) (hs : src < 10) : ∀ (F i : Nat) (σ : fl_St), i ≤ 10 → 10 - i < F → (∀ v, v < i → σ 7 v = if v = src then 1 else 0) → ∃ σ', f_X3_isReached_l3 fi (nI src) x3 F (nI i) σ = some σ' ∧ (∀ k, k ≠ 7 → σ' k = σ k) ∧ ∀ v, v < 10 → σ' 7 v = if v = src then 1 else 0 := by
  intro F
  induction F with
  | zero => intro i σ h1 h2; omega
  | succ F ih =>
    intro i σ h1 h2 hz
    by_cases c : i = 10
    · subst c
      exact ⟨σ, by rw [f_X3_isReached_l3]; rfl, fun _ _ => rfl, hz⟩
    · have hn : ¬ (10 : Int32) ≤ nI i := nI_ge (a := i) (b := 10) (by omega) (by omega)
      rw [f_X3_isReached_l3, if_neg hn, nI_1]
      have go : ∀ y : Int32, (y = if i = src then 1 else 0) → ∃ σ', f_X3_isReached_l3 fi (nI src) x3 F (nI (i + 1)) (st σ 7 i y) = some σ' ∧ (∀ k, k ≠ 7 → σ' k = σ k) ∧ ∀ v, v < 10 → σ' 7 v = if v = src then 1 else 0 := by
        intro y hy
        obtain ⟨σ', e1, e2, e3⟩ := ih (i + 1) (st σ 7 i y) (by omega) (by omega) (fun v hv => by
          rw [st_v]
          by_cases e : v = i
          · rw [if_pos e, hy, e]
          · rw [if_neg e]; exact hz v (by omega))
        exact ⟨σ', e1, fun k h => (e2 k h).trans (st_k _ _ _ h), e3⟩
      by_cases c2 : i = src
      · rw [if_pos (by rw [c2]), fl_bs, if_neg (by decide), fl_wr_n (by omega) (by omega), fl_bs]
        exact go 1 (by rw [if_pos c2])
      · rw [if_neg (fun q => c2 ((nI_eq (by omega) (by omega)).mp q)), fl_bs, if_neg (by decide), fl_wr_n (by omega) (by omega), fl_bs]
        exact go 0 (by rw [if_neg c2])
/-- isReached: what is seen is closed; ways lead back to the start -/
theorem p_isReached (hfi : fi = 5 ∨ fi = 6) {σ : fl_St} (hX : ex_N σ M fr to C al) (hf : rv σ fi = f) (hb : ∀ k, k < M → 0 ≤ f k ∧ f k ≤ C k) (hs : src < 10) {e : Nat} (he : e < 10) :
    ∃ (b : Bool) (ps : Nat → Nat) (mn : Nat) (σ' : fl_St), f_X3_isReached fi (nI src) (nI e) σ = some (b2i b, σ') ∧ bq_F σ σ' ∧ bq_Q M fr to (o2 C f al) src mn ps σ' ∧ (∀ j, j < 2 * M → o2 C f al j → σ' 7 (lk_tl fr to j) = 1 → σ' 7 (lk_hd fr to j) = 1) ∧ (b = true ↔ σ' 7 e = 1) := by
  obtain ⟨σ1, a1, a2, a3⟩ := p_bfs_z (fi := fi) (src := src) (nI e) hs fl_N 0 σ (by omega) (by unfold fl_N; omega) (fun v hv => by omega)
  have F2 : bq_F σ (st σ1 12 0 (nI src)) := fun k h1 h2 h3 => by rw [st_k _ _ _ h3, a2 k h1]
  have h7 : ∀ v, v < 10 → st σ1 12 0 (nI src) 7 v = if v = src then 1 else 0 := fun v hv => by rw [st_k _ _ _ (by decide)]; exact a3 v hv
  have hQ0 : bq_Q M fr to (o2 C f al) src 1 (fun _ => 0) (st σ1 12 0 (nI src)) := by
    refine ⟨by decide, by decide, fun v hv => ?_, fun i hi => ⟨src, hs, ?_, by rw [h7 src hs, if_pos rfl], by show 0 = i; omega⟩, hs, by rw [h7 src hs, if_pos rfl], rfl, fun v hv h1 h2 => ?_⟩
    · rw [h7 v hv]
      by_cases c : v = src
      · rw [if_pos c]
        exact Or.inr ⟨rfl, Nat.zero_lt_one, by show st σ1 12 0 (nI src) 12 0 = nI v; rw [st_s, c]⟩
      · rw [if_neg c]; exact Or.inl rfl
    · rw [show i = 0 by omega, st_s]
    · rw [h7 v hv, if_neg h2] at h1
      exact absurd h1 (by decide)
  obtain ⟨ps, mn, σ2, b1, b2, b3, b4⟩ := p_bfs_out hfi hb (nI e) fl_N 0 1 (fun _ => 0) _ (by omega) (by unfold fl_N; omega) (F2.X hX) (F2.fl hfi hf) hQ0 (fun j hj ho h7 hc => by omega)
  unfold f_X3_isReached
  rw [show f_X3_isReached_l3 fi (nI src) (nI e) fl_N 0 σ = some σ1 from a1, fl_bs, show fl_wr σ1 12 10 0 (nI src) = some (st σ1 12 0 (nI src)) from fl_wr_n (j := 0) (by decide) (by decide), fl_bs, show f_X3_isReached_l47 fi (nI e) fl_N 1 0 (st σ1 12 0 (nI src)) = some σ2 from b1, fl_bs, fl_rd_n he (by omega), fl_bs]
  rcases b3.2.2.1 e he with c | ⟨c, -⟩
  · rw [c, if_neg (by decide)]
    exact ⟨false, ps, mn, σ2, rfl, F2.tr b2, b3, b4, (fun q => by cases q), fun q => by rw [c] at q; exact absurd q (by decide)⟩
  · rw [c, if_neg (by decide)]
    exact ⟨true, ps, mn, σ2, rfl, F2.tr b2, b3, b4, fun _ => c, fun _ => rfl⟩
end BFS2
