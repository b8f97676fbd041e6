/-! pure rows: the reference: rounds below 0 are taken away until there is none; the sum -/
section CAN
variable {n : Nat} {fr to : Nat → Nat} {cp cs sp : Nat → Int}
/-- a flow in the reference's rows -/
def mf_I (n : Nat) (fr to : Nat → Nat) (cp cs sp : Nat → Int) (K : Int) (f : Nat → Int) : Prop := (∀ k, k < n → 0 ≤ f k ∧ f k ≤ cM cp k) ∧ (∀ v, v < 8 → fl_div n fr to f v = sp v) ∧ ∀ k, k < n → f k + fl_cost n cs f ≤ K
theorem mf_Fs {K : Int} {f : Nat → Int} (hf : (∀ k, k < n → 0 ≤ f k ∧ f k ≤ cM cp k)) (hd : ∀ v, v < 8 → fl_div n fr to f v = sp v) : fl_Fs n fr to cp sp f := by
  refine ⟨fun a ha => ⟨(hf a ha).1, ?_⟩, hd⟩
  by_cases c : cp a = -1
  · exact Or.inl c
  · right
    have := (hf a ha).2
    unfold cM at this
    rw [if_neg c] at this
    exact this
theorem p_cancel (hV : md_V n fr to cp cs) {K LB : Int} (hlb : ∀ y, fl_Fs n fr to cp sp y → -LB ≤ fl_cost n cs y) :
    ∀ (F : Nat) (cg : Bool) (la T : Nat) (w : Int32) (σ : fl_St), fl_cost n cs (rv σ 5) + LB < F → T ≤ 1000 → md_N σ n fr to cp cs sp → la_R w cg la → mf_I n fr to cp cs sp K (rv σ 5) → fr_I n fr to cp cs (rv σ 5) 0 8 (2 * n) cg la T σ →
      ∃ (la' T' : Nat) (σ' : fl_St), f_X3_solve_l98 F w σ = some σ' ∧ (∀ k, k ≠ 5 → k ≠ 8 → k ≠ 9 → σ' k = σ k) ∧ T' ≤ 1000 ∧ mf_I n fr to cp cs sp K (rv σ' 5) ∧ fr_I n fr to cp cs (rv σ' 5) 0 8 (2 * n) false la' T' σ' := by
  intro F
  induction F with
  | zero =>
    intro cg la T w σ hF hT hN hla hf hI
    have := hlb _ (mf_Fs (K := K) hf.1 hf.2.1)
    omega
  | succ F ih =>
    intro cg la T w σ hF hT hN hla hf hI
    rcases hla with ⟨rfl, rfl⟩ | ⟨rfl, rfl⟩
    · exact ⟨la, T, σ, by rw [f_X3_solve_l98, if_pos rfl], fun _ _ _ _ => rfl, hT, hf, hI⟩
    · have hla8 : la < 8 := by
        obtain ⟨tm, rd, ch, -, -, ⟨-, c2⟩, -⟩ := hI
        exact (c2 rfl).1
      obtain ⟨σ1, m, g1, g2, g3, g4, g5, g6⟩ := p_goRound hV hN rfl hf.1 hI
      have hne : nI la ≠ -1000004 := fun e => by
        have e2 := congrArg Int32.toInt e
        rw [nI_t (by omega), show (-1000004 : Int32).toInt = -1000004 by decide] at e2
        omega
      rw [f_X3_solve_l98, if_neg hne, g1, fl_bs]
      have N1 : md_N σ1 n fr to cp cs sp := hN.mv (fun k h => g2 k (by omega)) (by rw [g2 13 (by decide)])
      obtain ⟨cg2, la2, T2, w2, σ2, q1, q2, q3, q4, q5⟩ := p_findRound (x1 := 0) (f := rv σ1 5) hV N1 rfl
      rw [q1, fl_b2s]
      have e5 : rv σ2 5 = rv σ1 5 := rv_k (q2.1 5 (by decide) (by decide))
      obtain ⟨la', T', σ', z1, z2, z3, z4, z5⟩ := ih cg2 la2 T2 w2 σ2 (by rw [e5]; omega) q4 (q2.N N1) q3 (by
        rw [e5]
        refine ⟨fun k hk => ⟨(g4 k hk).1, (g4 k hk).2.1⟩, fun v hv => by rw [g5 v, hf.2.1 v hv], fun k hk => ?_⟩
        have h1 := (g4 k hk).2.2
        have h2 := hf.2.2 k hk
        omega) (by rw [e5]; exact q5)
      exact ⟨la', T', σ', z1, fun k a b c => by rw [z2 k a b c, q2.1 k b c, g2 k a], z3, z4, z5⟩
/-- no round below 0 is left: a cheapest flow, by its distances -/
theorem mf_slk {K LB : Int} {f : Nat → Int} {la T : Nat} {σ : fl_St} (hKL : K + LB < 1000000) (hlb : ∀ y, fl_Fs n fr to cp sp y → -LB ≤ fl_cost n cs y) (hf : mf_I n fr to cp cs sp K f) (hI : fr_I n fr to cp cs f 0 8 (2 * n) false la T σ) (ha : fl_Ar 8 n fr to) : fl_Slk n fr to cp cs (rv σ 8) f := by
  obtain ⟨z1, z2, z3, -, -⟩ := bf_end hI
  have hl := hlb _ (mf_Fs (K := K) hf.1 hf.2.1)
  intro a h
  obtain ⟨a1, a2, -⟩ := ha a h
  have h1 : rv σ 8 (fr a) ≤ 0 := z1 _ a1
  have h2 : rv σ 8 (to a) ≤ 0 := z1 _ a2
  have hb := hf.1 a h
  have hk := hf.2.2 a h
  refine ⟨fun q => ?_, fun q => ?_⟩
  · have hno : ¬ 0 < cM cp a - f a := fun o => by
      have := z3 (2 * a) (by omega) ⟨fun _ => by rw [rr_0]; exact o, fun e => absurd rfl e⟩
      rw [lk_t0, lk_h0, lk_w0] at this
      have := this (by omega)
      omega
    by_cases c : cp a = -1
    · unfold cM at hno
      rw [if_pos c] at hno
      omega
    · unfold cM at hno hb
      rw [if_neg c] at hno hb
      exact ⟨c, by omega⟩
  · have hno : ¬ 0 < f a := fun o => by
      have := z3 (2 * a + 1) (by omega) ⟨fun _ => by rw [rr_1]; exact o, fun e => absurd rfl e⟩
      rw [lk_t1, lk_h1, lk_w1] at this
      have := this (by omega)
      omega
    omega
theorem p_total_in (hV : md_V n fr to cp cs) {f : Nat → Int} {Kf : Int} (hK : Kf ≤ 1000000) (hf : ∀ k, k < n → 0 ≤ f k ∧ f k ≤ Kf) :
    ∀ (F i : Nat) (σ : fl_St), i ≤ n → n - i < F → md_N σ n fr to cp cs sp → rv σ 5 = f → (σ 13 2).toInt = fl_cost i cs f → -(60000000 * (i : Int)) ≤ fl_cost i cs f → fl_cost i cs f ≤ 60000000 * (i : Int) →
      ∃ σ', f_X3_solve_l126 F (nI i) σ = some σ' ∧ (∀ k, k ≠ 13 → σ' k = σ k) ∧ σ' 13 0 = σ 13 0 ∧ σ' 13 1 = σ 13 1 ∧ (σ' 13 2).toInt = fl_cost n cs f := by
  have hn := hV.1
  intro F
  induction F with
  | zero => intro i σ h1 h2; omega
  | succ F ih =>
    intro i σ h1 h2 hN h5 ht b1 b2
    by_cases c : i = n
    · subst c
      exact ⟨σ, by rw [f_X3_solve_l126, hN.1, if_pos (nI_le (Nat.le_refl _) (by omega))], fun _ _ => rfl, rfl, rfl, ht⟩
    · have hlt : i < n := by omega
      obtain ⟨-, -, -, q3⟩ := hN.2.1 i hlt
      obtain ⟨-, c1, c2⟩ := hV.2.2 i hlt
      have hfi := hf i hlt
      have f5 : (σ 5 i).toInt = f i := by rw [← h5]
      rw [f_X3_solve_l126, hN.1, if_neg (nI_ge hlt (by omega)), nI_1, fl_rd_n (by omega) (by omega), fl_bs, fl_rd_n (by omega) (by omega), fl_bs, fl_bs]
      have p1 : f i * cs i ≤ f i * 60 := Int.mul_le_mul_of_nonneg_left c2 hfi.1
      have p2 : f i * (-60) ≤ f i * cs i := Int.mul_le_mul_of_nonneg_left c1 hfi.1
      have m1 : (σ 5 i * σ 3 i).toInt = f i * cs i := by rw [i_mul (by rw [q3, f5]; omega) (by rw [q3, f5]; omega), q3, f5]
      have hs : fl_cost (i + 1) cs f = fl_cost i cs f + f i * cs i := by
        show fl_cost i cs f + cs i * f i = _
        rw [Int.mul_comm]
      have m2 : (σ 13 2 + σ 5 i * σ 3 i).toInt = fl_cost (i + 1) cs f := by
        rw [i_add (by rw [m1, ht]; omega) (by rw [m1, ht]; omega), m1, ht, hs]
      obtain ⟨σ', z1, z2, z3, z4, z5⟩ := ih (i + 1) (st σ 13 2 (σ 13 2 + σ 5 i * σ 3 i)) (by omega) (by omega) (hN.mv (fun k h => st_k _ _ _ (by omega)) (st_j _ _ _ (by decide))) (by rw [rv_sk _ _ _ (by decide)]; exact h5) (by rw [st_s]; exact m2) (by rw [hs]; omega) (by rw [hs]; omega)
      exact ⟨σ', z1, fun k h => (z2 k h).trans (st_k _ _ _ h), (z3.trans (st_j σ 13 (j := 2) (j' := 0) _ (by decide))).trans hN.1, z4.trans (st_j σ 13 (j := 2) (j' := 1) _ (by decide)), z5⟩
end CAN
/-- a solved network has a cheapest flow that is small: the class's own -/
theorem i_of {z : Int} (h1 : -2147483648 ≤ z) (h2 : z ≤ 2147483647) : (Int32.ofInt z).toInt = z := by
  rw [Int32.toInt_ofInt]; exact Int.bmod_eq_of_le (m := Int32.size) (by have : Int32.size = 4294967296 := rfl; omega) (by have : Int32.size = 4294967296 := rfl; omega)
theorem fl_small {n : Nat} {fr to : Nat → Nat} {cp cs sp : Nat → Int} (hV : fl_V n fr to cp cs sp) (hP : ∃ d, fl_PotU n fr to cp cs d) (hF : ∃ y, fl_Fs n fr to cp sp y) : ∃ x, fl_Op n fr to cp cs sp x ∧ ∀ a, a < n → 0 ≤ x a ∧ x a ≤ 840 := by
  obtain ⟨σ, hσ⟩ : ∃ σ : fl_St, cl_N σ n fr to cp cs sp := by
    refine ⟨fun k j => if k = 12 then nI n else if k = 0 then nI (fr j) else if k = 1 then nI (to j) else if k = 2 then Int32.ofInt (cp j) else if k = 3 then Int32.ofInt (cs j) else Int32.ofInt (sp j), rfl, fun a ha => ⟨rfl, rfl, ?_, ?_⟩, fun v hv => ?_⟩
    · have := hV.2.2.1 a ha
      exact i_of (by omega) (by omega)
    · have := hV.2.2.1 a ha
      exact i_of (by omega) (by omega)
    · have := hV.2.2.2 v hv
      exact i_of (by omega) (by omega)
  obtain ⟨r, σ', -, -, h⟩ := p_state hV hσ
  rcases h with ⟨-, h⟩ | ⟨-, -, h⟩ | ⟨-, -, -, ⟨ex0, h1⟩, h2⟩
  · exact absurd hF h
  · exact absurd hP h
  · exact ⟨_, rt_flow hV h1 h2, rt_x hV h1⟩
