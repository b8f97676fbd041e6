/-! pure rows: the reference: isFree and room -/
section ROOM
variable {n : Nat} {fr to : Nat → Nat} {cp cs sp : Nat → Int}
theorem sl_fix {f : Nat → Int} {la T : Nat} {σ : fl_St} (ha : fl_Ar 8 n fr to) (hb : ∀ k, k < n → 0 ≤ f k ∧ f k ≤ cM cp k ∧ f k < 1000000) (hI : fr_I n fr to cp cs f 0 8 (2 * n) false la T σ) : fl_Slk n fr to cp cs (rv σ 8) f := by
  obtain ⟨z1, z2, z3, -, -⟩ := bf_end hI
  intro a h
  obtain ⟨a1, a2, -⟩ := ha a h
  have h1 : rv σ 8 (fr a) ≤ 0 := z1 _ a1
  have h2 : rv σ 8 (to a) ≤ 0 := z1 _ a2
  have hba := hb a h
  refine ⟨fun q => ?_, fun q => ?_⟩
  · have hno : ¬ 0 < cM cp a - f a := fun o => by
      have := z3 (2 * a) (by omega) ⟨fun _ => by rw [rr_0]; exact o, fun e => absurd rfl e⟩
      rw [lk_t0, lk_h0, lk_w0] at this
      have := this (by omega)
      omega
    by_cases c : cp a = -1
    · unfold cM at hno
      rw [if_pos c] at hno
      omega
    · unfold cM at hno hba
      rw [if_neg c] at hno hba
      exact ⟨c, by omega⟩
  · have hno : ¬ 0 < f a := fun o => by
      have := z3 (2 * a + 1) (by omega) ⟨fun _ => by rw [rr_1]; exact o, fun e => absurd rfl e⟩
      rw [lk_t1, lk_h1, lk_w1] at this
      have := this (by omega)
      omega
    omega
theorem p_fr_opt (hV : md_V n fr to cp cs) {f pt : Nat → Int} {σ : fl_St} (hN : md_N σ n fr to cp cs sp) (h5 : rv σ 5 = f) (hb : ∀ k, k < n → 0 ≤ f k ∧ f k ≤ cM cp k ∧ f k < 1000000) (hs : fl_Slk n fr to cp cs pt f) :
    ∃ σ', f_X3_findRound 0 σ = some (-1000004, σ') ∧ md_F σ σ' ∧ fl_Slk n fr to cp cs (rv σ' 8) f ∧ ∀ v, v < 8 → -60000 ≤ rv σ' 8 v ∧ rv σ' 8 v ≤ 0 := by
  obtain ⟨cg, la, T, w, σ', d1, d2, d3, d4, d5⟩ := p_findRound (x1 := 0) (f := f) hV hN h5
  rcases d3 with ⟨rfl, rfl⟩ | ⟨rfl, rfl⟩
  · exact ⟨σ', d1, d2, sl_fix hV.2.1 hb d5, fr_bd d5 d4⟩
  · exfalso
    have := bf_few d5 ⟨pt, fun j hj ho => by
      have ho := ho.1 rfl
      by_cases e : j % 2 = 0
      · obtain ⟨a, rfl⟩ : ∃ a, j = 2 * a := ⟨j / 2, by omega⟩
        rw [rr_0] at ho
        rw [lk_t0, lk_h0, lk_w0]
        by_cases c : cs a + pt (fr a) - pt (to a) < 0
        · obtain ⟨q1, q2⟩ := (hs a (by omega)).1 c
          unfold cM at ho
          rw [if_neg q1] at ho
          omega
        · omega
      · obtain ⟨a, rfl⟩ : ∃ a, j = 2 * a + 1 := ⟨j / 2, by omega⟩
        rw [rr_1] at ho
        rw [lk_t1, lk_h1, lk_w1]
        by_cases c : 0 < cs a + pt (fr a) - pt (to a)
        · have q2 := (hs a (by omega)).2 c
          omega
        · omega⟩
    omega
theorem p_isFree (hV : md_V n fr to cp cs) {σ : fl_St} (hN : md_N σ n fr to cp cs sp) (hd : ∀ v, v < 8 → -60000 ≤ rv σ 8 v ∧ rv σ 8 v ≤ 0) {a : Nat} (ha : a < n) :
    ∃ t : Int32, f_X3_isFree (nI a) σ = some t ∧ ((t = 1 ∧ c_r cs fr to (rv σ 8) a = 0) ∨ (t = 0 ∧ c_r cs fr to (rv σ 8) a ≠ 0)) := by
  have hn := hV.1
  obtain ⟨q0, q1, -, q3⟩ := hN.2.1 a ha
  obtain ⟨a1, a2, -⟩ := hV.2.1 a ha
  obtain ⟨-, c1, c2⟩ := hV.2.2 a ha
  have d1 := hd _ a1
  have d2 := hd _ a2
  have z : (0 : Int32).toInt = 0 := by decide
  unfold f_X3_isFree
  rw [fl_rd_n (by omega) (by omega), fl_bs, fl_rd_n (by omega) (by omega), fl_bs, q0, fl_rd_n (by omega) (by omega), fl_bs, fl_rd_n (by omega) (by omega), fl_bs, q1, fl_rd_n (by omega) (by omega), fl_bs]
  have e1 : (σ 3 a + σ 8 (fr a)).toInt = cs a + rv σ 8 (fr a) := by
    rw [i_add (by rw [q3]; show _ ≤ cs a + rv σ 8 (fr a); omega) (by rw [q3]; show cs a + rv σ 8 (fr a) ≤ _; omega), q3]
  have e2 : (σ 3 a + σ 8 (fr a) - σ 8 (to a)).toInt = c_r cs fr to (rv σ 8) a := by
    rw [i_sub (by rw [e1]; show _ ≤ _ - rv σ 8 (to a); omega) (by rw [e1]; show _ - rv σ 8 (to a) ≤ _; omega), e1]
    rfl
  by_cases c : c_r cs fr to (rv σ 8) a = 0
  · rw [if_pos (by rw [i_eq, e2, z]; exact c), fl_bs, if_neg (by decide)]
    exact ⟨1, rfl, Or.inl ⟨rfl, c⟩⟩
  · rw [if_neg (fun q => c (by rw [i_eq, e2, z] at q; exact q)), fl_bs, if_neg (by decide)]
    exact ⟨0, rfl, Or.inr ⟨rfl, c⟩⟩
def rm_al (cs : Nat → Int) (fr to : Nat → Nat) (d : Nat → Int) (a k : Nat) : Prop := k ≠ a ∧ c_r cs fr to d k = 0
theorem p_room18 (hV : md_V n fr to cp cs) {f d : Nat → Int} (hd : ∀ v, v < 8 → -60000 ≤ d v ∧ d v ≤ 0) {a : Nat} (ha : a < n) (x2 x3 x4 : Int32) :
    ∀ (F i : Nat) (σ : fl_St), i ≤ n → n - i < F → md_N σ n fr to cp cs sp → rv σ 5 = f → rv σ 8 = d → (∀ k, k < i → ((σ 10 k = 0 ∧ ¬ rm_al cs fr to d a k) ∨ (σ 10 k = 1 ∧ rm_al cs fr to d a k)) ∧ rv σ 6 k = f k) →
      ∃ σ', f_X3_room_l18 (nI a) x2 x3 x4 (-1000004) F (nI i) σ = some σ' ∧ (∀ k, k ≠ 6 → k ≠ 10 → σ' k = σ k) ∧ ∀ k, k < n → ((σ' 10 k = 0 ∧ ¬ rm_al cs fr to d a k) ∨ (σ' 10 k = 1 ∧ rm_al cs fr to d a k)) ∧ rv σ' 6 k = f k := by
  have hn := hV.1
  intro F
  induction F with
  | zero => intro i σ h1 h2; omega
  | succ F ih =>
    intro i σ h1 h2 hN h5 h8 hz
    by_cases c : i = n
    · subst c
      exact ⟨σ, by rw [f_X3_room_l18, hN.1, if_pos (nI_le (Nat.le_refl _) (by omega))], fun _ _ _ => rfl, hz⟩
    · have hi : i < n := by omega
      obtain ⟨y, ey, hy⟩ : ∃ y : Int32, f_X3_room_l18 (nI a) x2 x3 x4 (-1000004) (F + 1) (nI i) σ = f_X3_room_l18 (nI a) x2 x3 x4 (-1000004) F (nI (i + 1)) (st (st σ 10 i y) 6 i (σ 5 i)) ∧ ((y = 0 ∧ ¬ rm_al cs fr to d a i) ∨ (y = 1 ∧ rm_al cs fr to d a i)) := by
        rw [f_X3_room_l18, hN.1, if_neg (nI_ge hi (by omega)), nI_1]
        by_cases c1 : i = a
        · rw [if_pos (by rw [c1]), fl_bs, if_neg (by decide), fl_wr_n (by omega) (by omega), fl_bs, fl_rd_n (by omega) (by omega), fl_bs, st_k (k' := 5) _ _ _ (by decide), fl_wr_n (by omega) (by omega), fl_bs]
          exact ⟨0, rfl, Or.inl ⟨rfl, fun q => q.1 c1⟩⟩
        · rw [if_neg (fun q => c1 ((nI_eq (by omega) (by omega)).mp q))]
          obtain ⟨t, et, ht⟩ := p_isFree hV hN (by rw [h8]; exact hd) hi
          rw [et, fl_bs]
          rw [h8] at ht
          rcases ht with ⟨rfl, ht⟩ | ⟨rfl, ht⟩
          · rw [if_neg (by decide), if_pos rfl, fl_bs, if_neg (by decide), fl_wr_n (by omega) (by omega), fl_bs, fl_rd_n (by omega) (by omega), fl_bs, st_k (k' := 5) _ _ _ (by decide), fl_wr_n (by omega) (by omega), fl_bs]
            exact ⟨1, rfl, Or.inr ⟨rfl, c1, ht⟩⟩
          · rw [if_pos rfl, fl_bs, if_neg (by decide), fl_wr_n (by omega) (by omega), fl_bs, fl_rd_n (by omega) (by omega), fl_bs, st_k (k' := 5) _ _ _ (by decide), fl_wr_n (by omega) (by omega), fl_bs]
            exact ⟨0, rfl, Or.inl ⟨rfl, fun q => ht q.2⟩⟩
      rw [ey]
      have hk : ∀ k, k ≠ 6 → k ≠ 10 → st (st σ 10 i y) 6 i (σ 5 i) k = σ k := fun k h1 h2 => by rw [st_k _ _ _ h1, st_k _ _ _ h2]
      obtain ⟨σ', e1, e2, e3⟩ := ih (i + 1) _ (by omega) (by omega) (hN.mv (fun k h => hk k (by omega) (by omega)) (by rw [hk 13 (by decide) (by decide)])) (by rw [← h5]; exact rv_k (hk 5 (by decide) (by decide))) (by rw [← h8]; exact rv_k (hk 8 (by decide) (by decide))) (fun k hk2 => by
        rw [st_k (k' := 10) _ _ _ (by decide), st_v, rv_st, rv_sk (k' := 6) _ _ _ (by decide)]
        by_cases e : k = i
        · rw [if_pos e, e, fl_up_s]
          exact ⟨hy, by rw [← h5]⟩
        · rw [if_neg e, fl_up_n _ _ e]
          exact hz k (by omega))
      exact ⟨σ', e1, fun k h1 h2 => (e2 k h1 h2).trans (hk k h1 h2), e3⟩
theorem p_room (hV : md_V n fr to cp cs) {f : Nat → Int} {σ : fl_St} (hN : md_N σ n fr to cp cs sp) (h5 : rv σ 5 = f) (hb : ∀ k, k < n → 0 ≤ f k ∧ f k ≤ cM cp k) (hd : ∀ v, v < 8 → -60000 ≤ rv σ 8 v ∧ rv σ 8 v ≤ 0) (hfr : f_X3_findRound 0 σ = some (-1000004, σ)) {a u w : Nat} (ha : a < n) (hu : u < 8) (hw : w < 8) (huw : u ≠ w) {x4 : Int32} {mo : Int} (hx : x4.toInt = mo) (h0 : 0 ≤ mo) (h1 : mo ≤ 1000000) :
    ∃ (r : Int32) (σ' : fl_St) (f' : Nat → Int), f_X3_room (nI a) (nI u) (nI w) x4 σ = some (r, σ') ∧ md_N σ' n fr to cp cs sp ∧ rv σ' 5 = f ∧ 0 ≤ r.toInt ∧ r.toInt ≤ mo ∧ pa_I n fr to (cM cp) f (rm_al cs fr to (rv σ 8) a) u w r.toInt f' ∧
      (r.toInt = mo ∨ ∃ S : Nat → Prop, S u ∧ ¬ S w ∧ ∀ j, j < 2 * n → o2 (cM cp) f' (rm_al cs fr to (rv σ 8) a) j → S (lk_tl fr to j) → S (lk_hd fr to j)) := by
  have hn := hV.1
  have z : (0 : Int32).toInt = 0 := by decide
  have N1 : md_N (st σ 13 1 (σ 13 0)) n fr to cp cs sp := hN.mv (fun k hk => st_k _ _ _ (by omega)) (st_j _ _ _ (by decide))
  obtain ⟨σ1, a1, a2, a3⟩ := p_room18 (f := f) (d := rv σ 8) hV hd ha (nI u) (nI w) x4 fl_N 0 (st σ 13 1 (σ 13 0)) (by omega) (by unfold fl_N; omega) N1 (by rw [rv_sk _ _ _ (by decide)]; exact h5) (rv_sk _ _ _ (by decide)) (fun k hk => by omega)
  have N2 : md_N σ1 n fr to cp cs sp := N1.mv (fun k hk => a2 k (by omega) (by omega)) (by rw [a2 13 (by decide) (by decide)])
  have g5 : rv σ1 5 = f := by rw [rv_k (a2 5 (by decide) (by decide)), rv_sk _ _ _ (by decide)]; exact h5
  unfold f_X3_room
  rw [hfr, fl_b2s, fl_bs, show f_X3_room_l18 (nI a) (nI u) (nI w) x4 (-1000004) fl_N 0 (st σ 13 1 (σ 13 0)) = some σ1 from a1, fl_bs]
  by_cases c : 0 < mo
  · rw [if_pos (by rw [i_lt, hx, z]; exact c)]
    have hX : ex_N σ1 n fr to (cM cp) (rm_al cs fr to (rv σ 8) a) := by
      refine ⟨by rw [a2 13 (by decide) (by decide), st_s, hN.1], by omega, fun k hk => ?_, fun k hk => ?_⟩
      · obtain ⟨q1, q2, q3⟩ := hV.2.1 k hk
        exact ⟨by omega, by omega, q3⟩
      · obtain ⟨q0, q1, q2, -⟩ := N2.2.1 k hk
        have hcm : 0 ≤ cM cp k ∧ cM cp k ≤ 1000000 := by have := (hV.2.2 k hk).1; unfold cM; split <;> omega
        exact ⟨q0, q1, q2, (a3 k hk).1, hcm⟩
    have h6 : ∀ k, k < n → rv σ1 6 k = f k := fun k hk => (a3 k hk).2
    obtain ⟨r, σ2, c1, c2, c3, c4, ⟨p1, p2, p3, p4⟩, c5⟩ := p_pushAll (fi := 6) (Or.inr rfl) (show u < 10 by omega) (show w < 10 by omega) huw hx h0 h1 hX (fun k hk => by rw [h6 k hk]; exact hb k hk)
    rw [c1, fl_b2s, fl_b2s]
    refine ⟨r, σ2, rv σ2 6, rfl, N2.mv (fun k hk => c2 k (by omega) (by omega) (by omega) (by omega)) (by rw [c2 13 (by decide) (by decide) (by decide) (by decide)]), ?_, c3, c4, ⟨p1, fun q => ?_, fun k hk => ?_, fun k hk hna => ?_⟩, c5⟩
    · rw [rv_k (c2 5 (by decide) (by decide) (by decide) (by decide))]; exact g5
    · rw [p2 q, fl_div_congr (fun k hk => h6 k hk)]
    · have := p3 k hk
      rw [h6 k hk] at this
      exact this
    · rw [p4 k hk hna, h6 k hk]
  · rw [if_neg (by rw [i_lt, hx, z]; exact c), fl_b2s]
    have hm0 : mo = 0 := by omega
    refine ⟨0, σ1, f, rfl, N2, g5, by decide, by rw [z]; omega, ⟨hb, fun q => ?_, fun k hk => by rw [z]; omega, fun _ _ _ => rfl⟩, Or.inl (by rw [z]; omega)⟩
    rw [z]
    split <;> split <;> omega
/-- pushing round an arc that is free keeps a flow a cheapest one -/
theorem rm_flow (ha : fl_Ar 8 n fr to) {f f' d : Nat → Int} {a : Nat} (han : a < n) (hf : fl_Fs n fr to cp sp f) (hs : fl_Slk n fr to cp cs d f) (hfree : c_r cs fr to d a = 0) {t : Int} (hb : ∀ k, k < n → 0 ≤ f' k ∧ f' k ≤ cM cp k) (hz : 0 ≤ f a - t ∧ f a - t ≤ cM cp a)
    (hdv : ∀ q, fl_div n fr to f' q = fl_div n fr to f q + ((if fr a = q then t else 0) - (if to a = q then t else 0))) (hna : ∀ k, k < n → ¬ rm_al cs fr to d a k → f' k = f k) : fl_Op n fr to cp cs sp (fl_up f' a (f a - t)) ∧ fl_Slk n fr to cp cs d (fl_up f' a (f a - t)) := by
  have hfa : f' a = f a := hna a han (fun q => q.1 rfl)
  have hb2 : ∀ k, k < n → 0 ≤ fl_up f' a (f a - t) k ∧ fl_up f' a (f a - t) k ≤ cM cp k := fun k hk => by
    by_cases e : k = a
    · rw [e, fl_up_s]; exact hz
    · rw [fl_up_n _ _ e]; exact hb k hk
  have hd2 : ∀ v, v < 8 → fl_div n fr to (fl_up f' a (f a - t)) v = sp v := fun v hv => by
    rw [fl_div_up han, hdv v, hfa, hf.2 v hv, show f a - t - f a = -t by omega]
    split <;> split <;> omega
  have hsl : fl_Slk n fr to cp cs d (fl_up f' a (f a - t)) := by
    intro k hk
    by_cases e : k = a
    · subst e
      unfold c_r at hfree
      exact ⟨fun q => by omega, fun q => by omega⟩
    · rw [fl_up_n _ _ e]
      by_cases c : c_r cs fr to d k = 0
      · unfold c_r at c
        exact ⟨fun q => by omega, fun q => by omega⟩
      · rw [hna k hk (fun q => c q.2)]
        exact hs k hk
  exact ⟨fl_opt ha (mf_Fs (K := 0) hb2 hd2) hsl, hsl⟩
theorem rm_cut (ha : fl_Ar 8 n fr to) {f' g d s : Nat → Int} {a : Nat} (han : a < n) (hg : fl_Op n fr to cp cs sp g) (hsl : fl_Slk n fr to cp cs d g) (hgf : ∀ k, k < n → k ≠ a → g k = f' k) (hlt : ∀ k, k < n → f' k < 1000000) (h01 : ∀ v, s v = 0 ∨ s v = 1) (hcl : ∀ j, j < 2 * n → o2 (cM cp) f' (rm_al cs fr to d a) j → s (lk_tl fr to j) = 1 → s (lk_hd fr to j) = 1)
    {y : Nat → Int} (hy : fl_Op n fr to cp cs sp y) : (g a - y a) * (s (fr a) - s (to a)) ≤ 0 := by
  have hys := fl_slk_all ha hg.1 hsl hy.1 (hy.2 _ hg.1)
  have hterm : ∀ k, k < n → k ≠ a → 0 ≤ (g k - y k) * (s (fr k) - s (to k)) := by
    intro k hk hka
    have hyb := hy.1.1 k hk
    have hgb := hg.1.1 k hk
    have hgk := hgf k hk hka
    by_cases c : c_r cs fr to d k = 0
    · rcases h01 (fr k) with q1 | q1 <;> rcases h01 (to k) with q2 | q2 <;> rw [q1, q2]
      · simp
      · have hno : ¬ 0 < f' k := fun o => by
          have := hcl (2 * k + 1) (by omega) ⟨by rw [show (2 * k + 1) / 2 = k by omega]; exact ⟨hka, c⟩, by rw [rr_1]; exact o⟩
          rw [lk_t1, lk_h1] at this
          have := this q2
          omega
        rw [show ((0 : Int) - 1) = -1 by decide, Int.mul_neg, Int.mul_one]
        omega
      · have hno : ¬ 0 < cM cp k - f' k := fun o => by
          have := hcl (2 * k) (by omega) ⟨by rw [show 2 * k / 2 = k by omega]; exact ⟨hka, c⟩, by rw [rr_0]; exact o⟩
          rw [lk_t0, lk_h0] at this
          have := this q1
          omega
        have h1 := hlt k hk
        have hcp : cp k ≠ -1 := fun e => by
          unfold cM at hno
          rw [if_pos e] at hno
          omega
        unfold cM at hno
        rw [if_neg hcp] at hno
        rw [show ((1 : Int) - 0) = 1 by decide, Int.mul_one]
        omega
      · simp
    · have : g k = y k := by
        unfold c_r at c
        rcases Int.lt_or_le (cs k + d (fr k) - d (to k)) 0 with q | q
        · rw [((hsl k hk).1 q).2, ((hys k hk).1 q).2]
        · rw [(hsl k hk).2 (by omega), (hys k hk).2 (by omega)]
      rw [this]; simp
  have e1 := fl_div_pot ha.w s g
  have e2 := fl_div_pot ha.w s y
  have e3 : fl_S 8 (fun v => s v * fl_div n fr to g v) = fl_S 8 (fun v => s v * fl_div n fr to y v) := fl_S_congr (fun v hv => by rw [hg.1.2 v hv, hy.1.2 v hv])
  have e4 : fl_S n (fun k => (g k - y k) * (s (fr k) - s (to k))) = 0 := by
    have : fl_S n (fun k => (g k - y k) * (s (fr k) - s (to k))) = fl_S n (fun k => g k * (s (fr k) - s (to k)) - y k * (s (fr k) - s (to k))) := fl_S_congr (fun k _ => Int.sub_mul _ _ _)
    rw [this, fl_S_sub]
    omega
  have e5 : fl_S n (fun k => if k = a then (fun i => (g i - y i) * (s (fr i) - s (to i))) k else 0) ≤ fl_S n (fun k => (g k - y k) * (s (fr k) - s (to k))) := fl_S_le (fun k hk => by
    by_cases e : k = a
    · rw [if_pos e]; exact Int.le_refl _
    · rw [if_neg e]; exact hterm k hk e)
  rw [fl_S_pick han, e4] at e5
  exact e5
end ROOM
