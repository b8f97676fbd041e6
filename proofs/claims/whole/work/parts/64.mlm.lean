/-! pure rows: the reference: least and most -/
/-- what solve wants of a network -/
def md_H (n : Nat) (fr to : Nat → Nat) (cp cs sp : Nat → Int) : Prop := md_V n fr to cp cs ∧ (∀ v, v < 8 → -31 ≤ sp v ∧ sp v ≤ 31) ∧ fl_S n (fun a => ab (cs a)) ≤ 440 ∧ ((∃ d, fl_PotU n fr to cp cs d) → (∃ y, fl_Fs n fr to cp sp y) → ∃ x, fl_Op n fr to cp cs sp x ∧ ∀ a, a < n → 0 ≤ x a ∧ x a ≤ 841)
section LM
variable {n : Nat} {fr to : Nat → Nat} {cp cs sp : Nat → Int}
theorem slk_eq (ha : fl_Ar 8 n fr to) {f d y : Nat → Int} {a : Nat} (han : a < n) (hf : fl_Op n fr to cp cs sp f) (hs : fl_Slk n fr to cp cs d f) (hne : c_r cs fr to d a ≠ 0) (hy : fl_Op n fr to cp cs sp y) : y a = f a := by
  have hys := fl_slk_all ha hf.1 hs hy.1 (hy.2 _ hf.1)
  unfold c_r at hne
  rcases Int.lt_or_le (cs a + d (fr a) - d (to a)) 0 with q | q
  · rw [((hs a han).1 q).2, ((hys a han).1 q).2]
  · rw [(hs a han).2 (by omega), (hys a han).2 (by omega)]
theorem p_leastM (hH : md_H n fr to cp cs sp) {σ : fl_St} (hN : md_N σ n fr to cp cs sp) {a : Nat} (ha : a < n) (hA : f_X3_in (nI a) 0 (σ 13 0 - 1) σ = some 1) :
    ∃ (r : Int32) (σ' : fl_St), f_X3_least (nI a) σ = some (r, σ') ∧ md_N σ' n fr to cp cs sp ∧
      ((r = -1000002 ∧ ¬ ∃ y, fl_Fs n fr to cp sp y) ∨ (r = -1000003 ∧ (∃ y, fl_Fs n fr to cp sp y) ∧ ¬ ∃ d, fl_PotU n fr to cp cs d) ∨
        ((∃ d, fl_PotU n fr to cp cs d) ∧ ∃ x, fl_Op n fr to cp cs sp x ∧ r.toInt = x a ∧ ∀ y, fl_Op n fr to cp cs sp y → x a ≤ y a)) := by
  obtain ⟨hV, hsp, hsum, hsm⟩ := hH
  have hn := hV.1
  have har := hV.2.1
  obtain ⟨r, σ1, a1, a2, a3⟩ := p_solve hV hsp hsum hsm hN
  unfold f_X3_least
  rw [hA, fl_bs, if_neg (by decide), a1, fl_b2s]
  rcases a3 with ⟨rfl, a3⟩ | ⟨rfl, a3⟩ | ⟨rfl, a3, hop, hb, ⟨pt, hpt⟩, -, -, -⟩
  · rw [if_neg (by decide)]
    exact ⟨_, σ1, rfl, a2, Or.inl ⟨rfl, a3⟩⟩
  · rw [if_neg (by decide)]
    exact ⟨_, σ1, rfl, a2, Or.inr (Or.inl ⟨rfl, a3⟩)⟩
  · rw [if_pos (by decide)]
    obtain ⟨σ2, b1, b2, b3, b4⟩ := p_fr_opt (f := rv σ1 5) hV a2 rfl (fun k hk => ⟨(hb k hk).1, (hb k hk).2.1, by have := (hb k hk).2.2; omega⟩) hpt
    have N2 := b2.N a2
    have e5 : rv σ2 5 = rv σ1 5 := rv_k (b2.1 5 (by decide) (by decide))
    rw [b1, fl_b2s]
    obtain ⟨t, et, ht⟩ := p_isFree hV N2 b4 ha
    rw [et, fl_bs]
    have hfa : (σ2 5 a).toInt = rv σ1 5 a := by rw [← e5]
    have hba := hb a ha
    rcases ht with ⟨rfl, ht⟩ | ⟨rfl, ht⟩
    · obtain ⟨q0, q1, q2, -⟩ := N2.2.1 a ha
      obtain ⟨o1, o2, o3⟩ := har a ha
      rw [if_neg (by decide), fl_rd_n (by omega) (by omega), fl_bs, fl_rd_n (by omega) (by omega), fl_bs, q0, fl_rd_n (by omega) (by omega), fl_bs, q1, fl_bs]
      have hfr : f_X3_findRound 0 σ2 = some (-1000004, σ2) := by rw [p_fr_idem b2]; exact b1
      obtain ⟨r2, σ3, f', c1, c2, c3, c4, c5, ⟨p1, p2, p3, p4⟩, c6⟩ := p_room hV N2 e5 (fun k hk => ⟨(hb k hk).1, (hb k hk).2.1⟩) b4 hfr ha o1 o2 o3 (x4 := σ2 5 a) (mo := rv σ1 5 a) hfa hba.1 (by omega)
      rw [c1, fl_b2s, fl_b2s]
      obtain ⟨g1, g2⟩ := rm_flow har ha hop.1 b3 ht (t := r2.toInt) p1 (by omega) p2 p4
      have hdif : (σ2 5 a - r2).toInt = rv σ1 5 a - r2.toInt := by rw [i_sub (by rw [hfa]; omega) (by rw [hfa]; omega), hfa]
      refine ⟨_, σ3, rfl, c2, Or.inr (Or.inr ⟨a3, _, g1, by rw [hdif, fl_up_s], fun y hy => ?_⟩)⟩
      rw [fl_up_s]
      rcases c6 with c6 | ⟨S, s1, s2, s3⟩
      · have := (hy.1.1 a ha).1
        omega
      · obtain ⟨s, hs⟩ := fl_ind S
        have h01 : ∀ v, s v = 0 ∨ s v = 1 := fun v => by
          by_cases c : S v
          · exact Or.inr ((hs v).1 c)
          · exact Or.inl ((hs v).2 c)
        have hS1 : ∀ v, s v = 1 → S v := fun v q => Classical.byContradiction fun c => by
          have := (hs v).2 c
          omega
        have := rm_cut har ha g1 g2 (f' := f') (fun k hk hne => fl_up_n _ _ hne) (fun k hk => by
          have := p3 k hk
          have := (hb k hk).2.2
          omega) h01 (fun j hj o q => (hs _).1 (s3 j hj o (hS1 _ q))) hy
        rw [(hs _).1 s1, (hs _).2 s2, fl_up_s, show ((1 : Int) - 0) = 1 by decide, Int.mul_one] at this
        omega
    · rw [if_pos rfl, fl_rd_n (by omega) (by omega), fl_bs, fl_b2s]
      refine ⟨_, σ2, rfl, N2, Or.inr (Or.inr ⟨a3, _, hop, hfa, fun y hy => ?_⟩)⟩
      rw [slk_eq har ha hop b3 ht hy]
      exact Int.le_refl _
/-- with a potential of the tilted costs, a finite cut bounds what goes round -/
theorem most_fin (hV : md_V n fr to cp cs) (hsp : ∀ v, v < 8 → -31 ≤ sp v ∧ sp v ≤ 31) {f f' d : Nat → Int} {a : Nat} (ha : a < n) (hf : fl_Fs n fr to cp sp f) (hs : fl_Slk n fr to cp cs d f) (hfree : c_r cs fr to d a = 0) (hun : cp a = -1) {r : Int} (hp : pa_I n fr to (cM cp) f (rm_al cs fr to d a) (to a) (fr a) r f') (hP : ∃ e, fl_PotU n fr to cp (gt cs a (-1)) e) : r ≤ 848 := by
  obtain ⟨e, he⟩ := hP
  have har := hV.2.1
  obtain ⟨o1, o2, o3⟩ := har a ha
  obtain ⟨p1, p2, p3, p4⟩ := hp
  have hea := he a ha hun
  have hea : e (to a) ≤ e (fr a) + fl_up (fun b => 841 * cs b) a (841 * cs a + -1) a := hea
  rw [fl_up_s] at hea
  obtain ⟨s, hs01⟩ := fl_ind (fun v => e v - 841 * d v ≤ e (to a) - 841 * d (to a))
  have h01 : ∀ v, s v = 0 ∨ s v = 1 := fun v => by
    by_cases c : e v - 841 * d v ≤ e (to a) - 841 * d (to a)
    · exact Or.inr ((hs01 v).1 c)
    · exact Or.inl ((hs01 v).2 c)
  have hS1 : ∀ v, s v = 1 → e v - 841 * d v ≤ e (to a) - 841 * d (to a) := fun v q => Classical.byContradiction fun c => by
    have := (hs01 v).2 c
    omega
  unfold c_r at hfree
  have sto : s (to a) = 1 := (hs01 _).1 (Int.le_refl _)
  have sfr : s (fr a) = 0 := (hs01 _).2 (by omega)
  have hle : ∀ k, k < n → f' k * (s (fr k) - s (to k)) ≤ 30 := by
    intro k hk
    have hb := p1 k hk
    rcases h01 (fr k) with q1 | q1 <;> rcases h01 (to k) with q2 | q2 <;> rw [q1, q2]
    · simp
    · rw [show ((0 : Int) - 1) = -1 by decide, Int.mul_neg, Int.mul_one]; omega
    · rw [show ((1 : Int) - 0) = 1 by decide, Int.mul_one]
      have hka : k ≠ a := fun q => by rw [q, sfr] at q1; omega
      by_cases c : cp k = -1
      · have hek := he k hk c
        have hek : e (to k) ≤ e (fr k) + fl_up (fun b => 841 * cs b) a (841 * cs a + -1) k := hek
        rw [fl_up_n _ _ hka] at hek
        by_cases c2 : c_r cs fr to d k = 0
        · exfalso
          unfold c_r at c2
          have := hS1 _ q1
          have := (hs01 (to k)).1 (by omega)
          omega
        · have hk0 : f' k = f k := p4 k hk (fun q => c2 q.2)
          unfold c_r at c2
          rcases Int.lt_or_le (cs k + d (fr k) - d (to k)) 0 with q | q
          · exact absurd c ((hs k hk).1 q).1
          · have := (hs k hk).2 (by omega)
            omega
      · have := (hV.2.2 k hk).1
        unfold cM at hb
        rw [if_neg c] at hb
        omega
    · simp
  have e1 := fl_div_pot har.w s f'
  have e2 : fl_S n (fun k => f' k * (s (fr k) - s (to k))) ≤ fl_S n (fun _ => 30) := fl_S_le hle
  rw [fl_S_cst] at e2
  have e3 : fl_S 8 (fun v => s v * fl_div n fr to f' v) = fl_S 8 (fun v => s v * sp v) + r := by
    have h1 : fl_S 8 (fun v => s v * fl_div n fr to f' v) = fl_S 8 (fun v => s v * sp v + ((if to a = v then (fun q => s q * r) v else 0) - (if fr a = v then (fun q => s q * r) v else 0))) := fl_S_congr (fun v hv => by
      rw [p2 v, hf.2 v hv, Int.mul_add, Int.mul_sub]
      congr 1
      split <;> split <;> simp)
    rw [h1, fl_S_add, fl_S_sub, fl_S_pick' o2, fl_S_pick' o1]
    show _ + (s (to a) * r - s (fr a) * r) = _
    rw [sto, sfr]
    omega
  have e4 : fl_S 8 (fun _ => -31) ≤ fl_S 8 (fun v => s v * sp v) := fl_S_le (fun v hv => by
    have := hsp v hv
    rcases h01 v with q | q <;> rw [q] <;> omega)
  rw [fl_S_cst] at e4
  have := hV.1
  omega
theorem p_mostOf (hV : md_V n fr to cp cs) (hsp : ∀ v, v < 8 → -31 ≤ sp v ∧ sp v ≤ 31) {σ : fl_St} (hN : md_N σ n fr to cp cs sp) (hS : so_I σ n fr to cp cs sp) {a : Nat} (ha : a < n) :
    ∃ (r : Int32) (σ' : fl_St), f_X3_mostOf (nI a) σ = some (r, σ') ∧ md_N σ' n fr to cp cs sp ∧
      ((r = -1000004 ∧ ¬ ∃ d, fl_PotU n fr to cp (gt cs a (-1)) d) ∨ ((∃ d, fl_PotU n fr to cp (gt cs a (-1)) d) ∧ ∃ x, fl_Op n fr to cp cs sp x ∧ r.toInt = x a ∧ x a ≤ 1000000 ∧ ∀ y, fl_Op n fr to cp cs sp y → y a ≤ x a)) := by
  have hn := hV.1
  have har := hV.2.1
  obtain ⟨hop, hb, ⟨pt, hpt⟩, -, -, -⟩ := hS
  obtain ⟨σ2, b1, b2, b3, b4⟩ := p_fr_opt (f := rv σ 5) hV hN rfl (fun k hk => ⟨(hb k hk).1, (hb k hk).2.1, by have := (hb k hk).2.2; omega⟩) hpt
  have N2 := b2.N hN
  have e5 : rv σ2 5 = rv σ 5 := rv_k (b2.1 5 (by decide) (by decide))
  unfold f_X3_mostOf
  rw [b1, fl_b2s]
  obtain ⟨t, et, ht⟩ := p_isFree hV N2 b4 ha
  rw [et, fl_bs]
  have hfa : (σ2 5 a).toInt = rv σ 5 a := by rw [← e5]
  have hba := hb a ha
  obtain ⟨o1, o2, o3⟩ := har a ha
  -- no unbounded arc is below 0 by the distances
  have hun : ∀ b, b < n → cp b = -1 → 0 ≤ cs b + rv σ2 8 (fr b) - rv σ2 8 (to b) := fun b hbn c => Int.not_lt.mp fun q => ((b3 b hbn).1 q).1 c
  have hpot1 : (cp a ≠ -1 ∨ c_r cs fr to (rv σ2 8) a ≠ 0) → ∃ d, fl_PotU n fr to cp (gt cs a (-1)) d := by
    intro hor
    refine ⟨fun v => 841 * rv σ2 8 v, fun b hbn c => ?_⟩
    have h1 := hun b hbn c
    by_cases e : b = a
    · subst e
      show 841 * rv σ2 8 (to b) ≤ 841 * rv σ2 8 (fr b) + fl_up _ b _ b
      rw [fl_up_s]
      unfold c_r at hor
      omega
    · show 841 * rv σ2 8 (to b) ≤ 841 * rv σ2 8 (fr b) + fl_up _ a _ b
      rw [fl_up_n _ _ e]
      omega
  rcases ht with ⟨rfl, ht⟩ | ⟨rfl, ht⟩
  · obtain ⟨q0, q1, q2, -⟩ := N2.2.1 a ha
    have hcm : 0 ≤ cM cp a ∧ cM cp a ≤ 1000000 := by have := (hV.2.2 a ha).1; unfold cM; split <;> omega
    have hmo : (σ2 2 a - σ2 5 a).toInt = cM cp a - rv σ 5 a := by rw [i_sub (by rw [q2, hfa]; omega) (by rw [q2, hfa]; omega), q2, hfa]
    rw [if_neg (by decide), fl_rd_n (by omega) (by omega), fl_bs, q1, fl_rd_n (by omega) (by omega), fl_bs, q0, fl_rd_n (by omega) (by omega), fl_bs, fl_rd_n (by omega) (by omega), fl_bs]
    have hfr : f_X3_findRound 0 σ2 = some (-1000004, σ2) := by rw [p_fr_idem b2]; exact b1
    obtain ⟨r2, σ3, f', c1, c2, c3, c4, c5, hpa, c6⟩ := p_room hV N2 e5 (fun k hk => ⟨(hb k hk).1, (hb k hk).2.1⟩) b4 hfr ha o2 o1 (fun q => o3 q.symm) (x4 := σ2 2 a - σ2 5 a) (mo := cM cp a - rv σ 5 a) hmo (by omega) (by omega)
    rw [c1, fl_b2s]
    have hpa0 := hpa
    obtain ⟨p1, p2, p3, p4⟩ := hpa
    have h500 : (500000 : Int32).toInt = 500000 := by decide
    have g5a : (σ3 5 a).toInt = rv σ 5 a := by rw [← c3]
    by_cases cl : r2.toInt < 500000
    · rw [if_pos (by rw [i_lt, h500]; exact cl), fl_rd_n (by omega) (by omega), fl_bs, fl_bs]
      obtain ⟨g1, g2⟩ := rm_flow har ha hop.1 b3 ht (t := -r2.toInt) p1 (by omega) (fun q => by rw [p2 q]; split <;> split <;> omega) p4
      have hsum : (σ3 5 a + r2).toInt = rv σ 5 a + r2.toInt := by rw [i_add (by rw [g5a]; omega) (by rw [g5a]; omega), g5a]
      have hga : fl_up f' a (rv σ 5 a - -r2.toInt) a = rv σ 5 a + r2.toInt := by rw [fl_up_s]; omega
      have hlt : ∀ k, k < n → f' k < 1000000 := fun k hk => by
        have := p3 k hk
        have := (hb k hk).2.2
        omega
      refine ⟨_, σ3, rfl, c2, Or.inr ⟨?_, _, g1, by rw [hsum, hga], by rw [hga]; omega, fun y hy => ?_⟩⟩
      · by_cases cb : cp a = -1
        · rcases c6 with c6 | ⟨S, s1, s2, s3⟩
          · exfalso
            unfold cM at c6
            rw [if_pos cb] at c6
            omega
          · obtain ⟨s, hs⟩ := fl_ind S
            have h01 : ∀ v, s v = 0 ∨ s v = 1 := fun v => by
              by_cases c : S v
              · exact Or.inr ((hs v).1 c)
              · exact Or.inl ((hs v).2 c)
            have hS1 : ∀ v, s v = 1 → S v := fun v q => Classical.byContradiction fun c => by
              have := (hs v).2 c
              omega
            have sto := (hs _).1 s1
            have sfr := (hs _).2 s2
            refine ⟨fun v => 841 * rv σ2 8 v - s v, fun b hbn c => ?_⟩
            have h1 := hun b hbn c
            by_cases e : b = a
            · subst e
              show 841 * rv σ2 8 (to b) - s (to b) ≤ 841 * rv σ2 8 (fr b) - s (fr b) + fl_up _ b _ b
              rw [fl_up_s, sto, sfr]
              omega
            · show 841 * rv σ2 8 (to b) - s (to b) ≤ 841 * rv σ2 8 (fr b) - s (fr b) + fl_up _ a _ b
              rw [fl_up_n _ _ e]
              have z1 := h01 (fr b)
              have z2 := h01 (to b)
              by_cases c0 : c_r cs fr to (rv σ2 8) b = 0
              · have hcl : s (fr b) = 1 → s (to b) = 1 := fun q => by
                  have := s3 (2 * b) (by omega) ⟨by rw [show 2 * b / 2 = b by omega]; exact ⟨e, c0⟩, by
                    rw [rr_0]
                    have := hlt b hbn
                    unfold cM
                    rw [if_pos c]
                    omega⟩
                  rw [lk_t0, lk_h0] at this
                  exact (hs _).1 (this (hS1 _ q))
                unfold c_r at c0
                rcases z1 with z1 | z1
                · omega
                · have := hcl z1
                  omega
              · unfold c_r at c0
                omega
        · exact hpot1 (Or.inl cb)
      · rw [hga]
        rcases c6 with c6 | ⟨S, s1, s2, s3⟩
        · by_cases cb : cp a = -1
          · exfalso
            unfold cM at c6
            rw [if_pos cb] at c6
            omega
          · have := (hy.1.1 a ha).2
            unfold cM at c6
            rw [if_neg cb] at c6
            omega
        · obtain ⟨s, hs⟩ := fl_ind S
          have h01 : ∀ v, s v = 0 ∨ s v = 1 := fun v => by
            by_cases c : S v
            · exact Or.inr ((hs v).1 c)
            · exact Or.inl ((hs v).2 c)
          have hS1 : ∀ v, s v = 1 → S v := fun v q => Classical.byContradiction fun c => by
            have := (hs v).2 c
            omega
          have := rm_cut har ha g1 g2 (f' := f') (fun k hk hne => fl_up_n _ _ hne) hlt h01 (fun j hj o q => (hs _).1 (s3 j hj o (hS1 _ q))) hy
          rw [(hs _).1 s1, (hs _).2 s2, hga, show ((0 : Int) - 1) = -1 by decide, Int.mul_neg, Int.mul_one] at this
          omega
    · rw [if_neg (by rw [i_lt, h500]; exact cl), fl_bs]
      refine ⟨_, σ3, rfl, c2, Or.inl ⟨rfl, fun hP => ?_⟩⟩
      by_cases cb : cp a = -1
      · have := most_fin hV hsp ha hop.1 b3 ht cb hpa0 hP
        omega
      · have := (hV.2.2 a ha).1
        unfold cM at c5
        rw [if_neg cb] at c5
        omega
  · rw [if_pos rfl, fl_rd_n (by omega) (by omega), fl_bs]
    refine ⟨_, σ2, rfl, N2, Or.inr ⟨hpot1 (Or.inr ht), _, hop, hfa, by omega, fun y hy => ?_⟩⟩
    rw [slk_eq har ha hop b3 ht hy]
    exact Int.le_refl _
end LM
