/-! pure rows: the reference: goRound pushes round -/
section GO2
variable {n : Nat} {fr to : Nat → Nat} {cp cs sp : Nat → Int}
theorem p_push (hV : md_V n fr to cp cs) {f : Nat → Int} {σ : fl_St} (h5 : rv σ 5 = f) (hf : ∀ k, k < n → 0 ≤ f k ∧ f k ≤ cM cp k) {v j : Nat} (hv : v < 8) (hj : j < 2 * n) (h : ef σ v = (j : Int)) {mo : Int32} (hm : 0 ≤ mo.toInt ∧ mo.toInt ≤ 1000000) :
    ∃ σ' : fl_St, (if σ 9 v < 0 then ((fl_rd σ 5 36 ((-1) - σ 9 v)).bind fun v50 => (fl_wr σ 5 36 ((-1) - σ 9 v) (v50 - mo)).bind fun σ53 => some (σ53)) else ((fl_rd σ 5 36 (σ 9 v)).bind fun v56 => (fl_wr σ 5 36 (σ 9 v) (v56 + mo)).bind fun σ59 => some (σ59))) = some σ' ∧ (∀ k, k ≠ 5 → σ' k = σ k) ∧ rv σ' 5 = fu f j mo.toInt := by
  have hn := hV.1
  have f5 : (σ 5 (j / 2)).toInt = f (j / 2) := by rw [← h5]
  have hb := hf (j / 2) (by omega)
  have hc : cM cp (j / 2) ≤ 1000000 := by have := (hV.2.2 (j / 2) (by omega)).1; unfold cM; split <;> omega
  unfold fu
  rcases by_of (by omega) h with ⟨e, e1, e2⟩ | ⟨e, e1, e2⟩
  · rw [if_neg e2, e1, fl_rd_n (by omega) (by omega), fl_bs, fl_wr_n (by omega) (by omega), fl_bs, if_pos e]
    refine ⟨_, rfl, fun k hk => st_k _ _ _ hk, ?_⟩
    rw [rv_st, h5, i_add (by rw [f5]; omega) (by rw [f5]; omega), f5]
  · rw [if_pos e2, e1, fl_rd_n (by omega) (by omega), fl_bs, fl_wr_n (by omega) (by omega), fl_bs, if_neg (by omega)]
    refine ⟨_, rfl, fun k hk => st_k _ _ _ hk, ?_⟩
    rw [rv_st, h5, i_sub (by rw [f5]; omega) (by rw [f5]; omega), f5]
/-- after t pushes round -/
def go_G (n p : Nat) (fr to : Nat → Nat) (cp cs f0 : Nat → Int) (σ0 : fl_St) (tm : Nat → Nat) (v : Nat) (m : Int) (t : Nat) (ft : Nat → Int) : Prop :=
  (∀ k, k < n → 0 ≤ ft k ∧ ft k ≤ cM cp k) ∧ (∀ s, t ≤ s → s < p → rr (cM cp) f0 (eb σ0 (itf (nx fr to σ0) s v)) ≤ rr (cM cp) ft (eb σ0 (itf (nx fr to σ0) s v))) ∧
  (∀ q, fl_div n fr to ft q = fl_div n fr to f0 q + ((if itf (nx fr to σ0) t v = q then m else 0) - (if v = q then m else 0))) ∧ (∀ k, k < n → ft k ≤ f0 k + m) ∧
  ∃ Wt : Int, fl_cost n cs ft = fl_cost n cs f0 + m * Wt ∧ rv σ0 8 (itf (nx fr to σ0) t v) + Wt ≤ rv σ0 8 v ∧ (t = 0 ∨ rv σ0 8 (itf (nx fr to σ0) t v) + Wt < rv σ0 8 v ∨ tm (itf (nx fr to σ0) t v) < tm v)
theorem go_G.step {p : Nat} {f0 ft : Nat → Int} {σ0 : fl_St} {tm : Nat → Nat} {v t : Nat} {m : Int} (hA : ∀ i, go_A n fr to cp cs f0 σ0 tm (itf (nx fr to σ0) i v)) (hd : ∀ i j, i < j → j < p → itf (nx fr to σ0) i v ≠ itf (nx fr to σ0) j v) (ht : t < p) (h0 : 0 ≤ m) (hm : m ≤ rr (cM cp) f0 (eb σ0 (itf (nx fr to σ0) t v)))
    (h : go_G n p fr to cp cs f0 σ0 tm v m t ft) : go_G n p fr to cp cs f0 σ0 tm v m (t + 1) (fu ft (eb σ0 (itf (nx fr to σ0) t v)) m) := by
  obtain ⟨b, r, dv, ub, Wt, w1, w2, w3⟩ := h
  obtain ⟨a1, a2, a3, a4, a5, a6⟩ := hA t
  have rt := r t (Nat.le_refl _) ht
  have hnext : lk_tl fr to (eb σ0 (itf (nx fr to σ0) t v)) = itf (nx fr to σ0) (t + 1) v := (itf_s (nx fr to σ0) t v).symm
  refine ⟨fu_b b h0 (by omega), ?_, ?_, ?_, Wt + lk_w cs (eb σ0 (itf (nx fr to σ0) t v)), ?_, ?_, ?_⟩
  · intro s h1 h2
    have hne : eb σ0 (itf (nx fr to σ0) s v) ≠ eb σ0 (itf (nx fr to σ0) t v) := fun e => by
      have q1 := (hA s).2.2.2.2.1
      rw [e, a5] at q1
      exact hd t s (by omega) h2 q1
    exact Int.le_trans (r s (by omega) h2) (rr_n _ _ h0 hne)
  · intro q
    rw [fu_div _ a2, dv q, hnext, a5]
    omega
  · intro k hk
    have := ub k hk
    unfold fu
    by_cases e : k = eb σ0 (itf (nx fr to σ0) t v) / 2
    · rw [e, fl_up_s]
      rw [e] at this
      unfold rr at rt
      by_cases e2 : eb σ0 (itf (nx fr to σ0) t v) % 2 = 0
      · rw [if_pos e2] at rt ⊢
        rw [if_pos e2] at rt
        omega
      · rw [if_neg e2]; omega
    · rw [fl_up_n _ _ e]; exact this
  · rw [fu_cost _ a2, w1, Int.mul_add]; omega
  · have a6 : (rv σ0 8 (itf (nx fr to σ0) t v) = rv σ0 8 (lk_tl fr to (eb σ0 (itf (nx fr to σ0) t v))) + lk_w cs (eb σ0 (itf (nx fr to σ0) t v)) ∧ tm (lk_tl fr to (eb σ0 (itf (nx fr to σ0) t v))) < tm (itf (nx fr to σ0) t v)) ∨ rv σ0 8 (lk_tl fr to (eb σ0 (itf (nx fr to σ0) t v))) + lk_w cs (eb σ0 (itf (nx fr to σ0) t v)) < rv σ0 8 (itf (nx fr to σ0) t v) := a6
    rw [hnext] at a6
    rcases a6 with ⟨a6, -⟩ | a6 <;> omega
  · have a6 : (rv σ0 8 (itf (nx fr to σ0) t v) = rv σ0 8 (lk_tl fr to (eb σ0 (itf (nx fr to σ0) t v))) + lk_w cs (eb σ0 (itf (nx fr to σ0) t v)) ∧ tm (lk_tl fr to (eb σ0 (itf (nx fr to σ0) t v))) < tm (itf (nx fr to σ0) t v)) ∨ rv σ0 8 (lk_tl fr to (eb σ0 (itf (nx fr to σ0) t v))) + lk_w cs (eb σ0 (itf (nx fr to σ0) t v)) < rv σ0 8 (itf (nx fr to σ0) t v) := a6
    rw [hnext] at a6
    right
    rcases a6 with ⟨a6, a7⟩ | a6
    · rcases w3 with rfl | w3 | w3
      · right
        exact a7
      · left; omega
      · right; omega
    · left; omega
theorem p_go119 (hV : md_V n fr to cp cs) {f0 : Nat → Int} {σ0 : fl_St} {tm : Nat → Nat} (hN : md_N σ0 n fr to cp cs sp) {v p : Nat} (hA : ∀ m, go_A n fr to cp cs f0 σ0 tm (itf (nx fr to σ0) m v)) (hp : itf (nx fr to σ0) p v = v) (hmin : ∀ i, 0 < i → i < p → itf (nx fr to σ0) i v ≠ v)
    (hd : ∀ i j, i < j → j < p → itf (nx fr to σ0) i v ≠ itf (nx fr to σ0) j v) {mo : Int32} (hm : 0 ≤ mo.toInt ∧ mo.toInt ≤ 1000000) (hmr : ∀ s, s < p → mo.toInt ≤ rr (cM cp) f0 (eb σ0 (itf (nx fr to σ0) s v))) :
    ∀ (F t : Nat) (σ : fl_St), t < p → p - t < F → (∀ k, k ≠ 5 → σ k = σ0 k) → go_G n p fr to cp cs f0 σ0 tm v mo.toInt t (rv σ 5) →
      ∃ σ', f_X3_goRound_l119 (nI v) mo F (nI (itf (nx fr to σ0) t v)) 1 σ = some σ' ∧ (∀ k, k ≠ 5 → σ' k = σ0 k) ∧ go_G n p fr to cp cs f0 σ0 tm v mo.toInt p (rv σ' 5) := by
  intro F
  induction F with
  | zero => intro t σ h1 h2; omega
  | succ F ih =>
    intro t σ ht hF hk hG
    obtain ⟨a1, a2, a3, a4, a5, a6⟩ := hA t
    have e9 : σ 9 = σ0 9 := hk 9 (by decide)
    have hef : ef σ (itf (nx fr to σ0) t v) = (eb σ0 (itf (nx fr to σ0) t v) : Int) := by
      rw [← a3]
      show bd (rv σ 9 _) = bd (rv σ0 9 _)
      rw [rv_k e9]
    have hN2 : md_N σ n fr to cp cs sp := hN.mv (fun k h => hk k (by omega)) (by rw [hk 13 (by decide)])
    obtain ⟨σ1, p1, p2, p3⟩ := p_push hV rfl hG.1 a1 a2 hef hm
    rw [f_X3_goRound_l119, if_neg (by decide), fl_rd_n (by omega) (by omega), fl_bs, p_before hV hN2 a1 a2 hef, fl_bs, p1, fl_bs]
    have hG1 := hG.step hA hd ht hm.1 (hmr t ht)
    rw [← p3] at hG1
    have hk1 : ∀ k, k ≠ 5 → σ1 k = σ0 k := fun k h => (p2 k h).trans (hk k h)
    have hnext : lk_tl fr to (eb σ0 (itf (nx fr to σ0) t v)) = itf (nx fr to σ0) (t + 1) v := (itf_s (nx fr to σ0) t v).symm
    rw [hnext]
    have hv8 : v < 8 := (hA 0).1
    by_cases c : t + 1 = p
    · rw [c, hp, if_pos rfl, fl_bs]
      cases F with
      | zero => omega
      | succ F =>
        refine ⟨σ1, by rw [f_X3_goRound_l119]; rfl, hk1, ?_⟩
        rw [c] at hG1
        exact hG1
    · have hne := hmin (t + 1) (by omega) (by omega)
      have h8 := (hA (t + 1)).1
      rw [if_neg (fun q => hne ((nI_eq (by omega) (by omega)).mp q)), fl_bs]
      exact ih (t + 1) σ1 (by omega) (by omega) hk1 hG1
/-- goRound sends m units round at a cost below 0 -/
theorem p_goRound (hV : md_V n fr to cp cs) {f : Nat → Int} {la T : Nat} {σ : fl_St} (hN : md_N σ n fr to cp cs sp) (h5 : rv σ 5 = f) (hf : ∀ k, k < n → 0 ≤ f k ∧ f k ≤ cM cp k) (hI : fr_I n fr to cp cs f 0 8 (2 * n) true la T σ) :
    ∃ (σ' : fl_St) (m : Int), f_X3_goRound (nI la) σ = some σ' ∧ (∀ k, k ≠ 5 → σ' k = σ k) ∧ 1 ≤ m ∧ (∀ k, k < n → 0 ≤ rv σ' 5 k ∧ rv σ' 5 k ≤ cM cp k ∧ rv σ' 5 k ≤ f k + m) ∧ (∀ q, fl_div n fr to (rv σ' 5) q = fl_div n fr to f q) ∧ fl_cost n cs (rv σ' 5) + m ≤ fl_cost n cs f := by
  obtain ⟨tm, hA0, p0, hp0, hp8, hper⟩ := go_all hV hI
  have e4 := p_go4 hV hN hA0 fl_N 0 (by omega) (by unfold fl_N; omega)
  obtain ⟨v, hv⟩ : ∃ v, v = itf (nx fr to σ) 8 la := ⟨_, rfl⟩
  rw [← hv] at hper e4
  have hA : ∀ m, go_A n fr to cp cs f σ tm (itf (nx fr to σ) m v) := fun m => by
    rw [hv, ← itf_add]
    exact hA0 _
  obtain ⟨p, ⟨hp1, hp2⟩, hleast⟩ := pk_least (fun k => 0 < k ∧ itf (nx fr to σ) k v = v) ⟨p0, hp0, hper⟩
  have hple : p ≤ 8 := Nat.not_lt.mp fun q => hleast p0 (by omega) ⟨hp0, hper⟩
  have hmin : ∀ i, 0 < i → i < p → itf (nx fr to σ) i v ≠ v := fun i h1 h2 e => hleast i h2 ⟨h1, e⟩
  have hd : ∀ i j, i < j → j < p → itf (nx fr to σ) i v ≠ itf (nx fr to σ) j v := by
    intro i j hij hj e
    refine hmin (i + (p - j)) (by omega) (by omega) ?_
    rw [itf_add, e, ← itf_add, show j + (p - j) = p by omega]
    exact hp2
  obtain ⟨mo, m1, m2, m3, m4⟩ := p_go31 hV hN h5 hf hA hp2 hmin fl_N 0 1000000 hp1 (by unfold fl_N; omega) (by decide)
  have hM : (1000000 : Int32).toInt = 1000000 := by decide
  have hG0 : go_G n p fr to cp cs f σ tm v mo.toInt 0 (rv σ 5) := by
    rw [h5]
    refine ⟨hf, fun _ _ _ => Int.le_refl _, fun q => ?_, fun k _ => by omega, 0, by simp, ?_, Or.inl rfl⟩
    · show _ = _ + ((if v = q then mo.toInt else 0) - (if v = q then mo.toInt else 0))
      omega
    · show rv σ 8 v + 0 ≤ rv σ 8 v
      omega
  obtain ⟨σ', z1, z2, b, r, dv, ub, Wt, w1, w2, w3⟩ := p_go119 hV hN hA hp2 hmin hd ⟨by omega, by omega⟩ (fun s hs => m4 s (by omega) hs) fl_N 0 σ hp1 (by unfold fl_N; omega) (fun _ _ => rfl) hG0
  rw [hp2] at dv w2 w3
  refine ⟨σ', mo.toInt, ?_, z2, m2, fun k hk => ⟨(b k hk).1, (b k hk).2, ub k hk⟩, fun q => by rw [dv q]; omega, ?_⟩
  · unfold f_X3_goRound
    rw [show f_X3_goRound_l4 σ fl_N (nI la) 0 = some (nI v) from e4, fl_bs, show f_X3_goRound_l31 (nI v) σ fl_N 1000000 (nI v) 1 = some (mo, nI v) from m1, fl_b2s, show f_X3_goRound_l119 (nI v) mo fl_N (nI v) 1 σ = some σ' from z1, fl_bs]
  · have hW : Wt ≤ -1 := by
      rcases w3 with w3 | w3 | w3 <;> omega
    rw [w1]
    have : mo.toInt * Wt ≤ mo.toInt * (-1) := Int.mul_le_mul_of_nonneg_left hW (by omega)
    omega
end GO2
