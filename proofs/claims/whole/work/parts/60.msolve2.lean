/-! pure rows: the reference: solve -/
def ab (z : Int) : Int := if 0 ≤ z then z else -z
def fl_neg (sp : Nat → Int) : Int := fl_S 8 (fun v => if sp v < 0 then -sp v else 0)
theorem fl_pn (sp : Nat → Int) : fl_S 8 sp = fl_pos sp - fl_neg sp := by
  unfold fl_pos fl_neg
  rw [← fl_S_sub]
  exact fl_S_congr (fun v _ => by split <;> split <;> omega)
section SOLVE2
variable {n : Nat} {fr to : Nat → Nat} {cp cs sp : Nat → Int}
theorem fl_Fs_sum (ha : fl_Ar 8 n fr to) {y : Nat → Int} (hy : fl_Fs n fr to cp sp y) : fl_S 8 sp = 0 := by
  have q2 := fl_div_sum ha.w y
  rw [← q2]
  exact fl_S_congr (fun v hv => (hy.2 v hv).symm)
theorem ex_none (ha : fl_Ar 8 n fr to) {x ex s : Nat → Int} (he : ∀ v, v < 8 → ex v = sp v - fl_div n fr to x v) (h01 : ∀ v, s v = 0 ∨ s v = 1) (h1 : ∀ v, v < 8 → 0 < ex v → s v = 1) (h2 : ∀ v, v < 8 → ex v < 0 → s v = 0)
    (h3 : ∀ a, a < n → s (fr a) = 1 → s (to a) = 0 → cp a ≠ -1 ∧ x a = cp a) (h4 : ∀ a, a < n → s (fr a) = 0 → s (to a) = 1 → x a = 0) (hp : 0 < fl_pos ex) : ¬ ∃ y, fl_Fs n fr to cp sp y := by
  rintro ⟨y, hy⟩
  have hc := fl_cut (cp := cp) (x := x) ha h01 hy.1 h3 h4
  have e1 : fl_S 8 (fun v => s v * fl_div n fr to x v) = fl_S 8 (fun v => s v * sp v) - fl_S 8 (fun v => s v * ex v) := by
    rw [← fl_S_sub]
    refine fl_S_congr (fun v hv => ?_)
    have := he v hv
    rw [show fl_div n fr to x v = sp v - ex v by omega, Int.mul_sub]
  have e2 : fl_S 8 (fun v => s v * fl_div n fr to y v) = fl_S 8 (fun v => s v * sp v) := fl_S_congr (fun v hv => by rw [hy.2 v hv])
  have e3 : fl_pos ex ≤ fl_S 8 (fun v => s v * ex v) := fl_S_le (fun v hv => by
    have q1 := h1 v hv
    have q2 := h2 v hv
    by_cases c : 0 < ex v
    · rw [if_pos c, q1 c]; omega
    · rw [if_neg c]
      by_cases c2 : ex v < 0
      · rw [q2 c2]; omega
      · rw [show ex v = 0 by omega]; simp)
  omega
theorem p_solve6 {σ : fl_St} (hsp : ∀ v, v < 8 → -31 ≤ sp v ∧ sp v ≤ 31) (h4 : ∀ v, v < 8 → rv σ 4 v = sp v) :
    ∀ (F i : Nat) (x1 x2 : Int32), i ≤ 8 → 8 - i < F → x1.toInt = fl_S i (fun v => if 0 < sp v then sp v else 0) → x2.toInt = fl_S i (fun v => if sp v < 0 then -sp v else 0) → 0 ≤ x1.toInt → x1.toInt ≤ 31 * (i : Int) → 0 ≤ x2.toInt → x2.toInt ≤ 31 * (i : Int) →
      ∃ r1 r2 : Int32, f_X3_solve_l6 σ F x1 x2 (nI i) = some (r1, r2) ∧ r1.toInt = fl_pos sp ∧ r2.toInt = fl_neg sp := by
  intro F
  induction F with
  | zero => intro i x1 x2 h1 h2; omega
  | succ F ih =>
    intro i x1 x2 h1 h2 hx1 hx2 b1 b2 b3 b4
    by_cases c : i = 8
    · subst c
      exact ⟨x1, x2, by rw [f_X3_solve_l6]; rfl, hx1, hx2⟩
    · have hi : i < 8 := by omega
      have hs := hsp i hi
      have s4 : (σ 4 i).toInt = sp i := h4 i hi
      have z : (0 : Int32).toInt = 0 := by decide
      rw [f_X3_solve_l6, if_neg (nI_8 hi), fl_rd_n hi (by omega), fl_bs, nI_1]
      obtain ⟨y, ey, hy⟩ : ∃ y : Int32, (if σ 4 i ≤ 0 then some (0 : Int32) else ((some (σ 4 i)).bind fun v19 => some v19)) = some y ∧ y.toInt = if 0 < sp i then sp i else 0 := by
        by_cases q : 0 < sp i
        · rw [if_neg (by rw [i_le, s4, z]; omega), if_pos q]
          exact ⟨_, rfl, s4⟩
        · rw [if_pos (by rw [i_le, s4, z]; omega), if_neg q]
          exact ⟨_, rfl, z⟩
      obtain ⟨w, ew, hw⟩ : ∃ w : Int32, (if 0 ≤ σ 4 i then some (0 : Int32) else ((some (σ 4 i)).bind fun v16 => some (-v16))) = some w ∧ w.toInt = if sp i < 0 then -sp i else 0 := by
        by_cases q : sp i < 0
        · rw [if_neg (by rw [i_le, s4, z]; omega), if_pos q]
          exact ⟨_, rfl, by rw [i_neg (by rw [s4]; omega), s4]⟩
        · rw [if_pos (by rw [i_le, s4, z]; omega), if_neg q]
          exact ⟨_, rfl, z⟩
      rw [ey, fl_bs, fl_bs, ew, fl_bs]
      have hy2 : 0 ≤ y.toInt ∧ y.toInt ≤ 31 := by rw [hy]; split <;> omega
      have hw2 : 0 ≤ w.toInt ∧ w.toInt ≤ 31 := by rw [hw]; split <;> omega
      have e1 : (x1 + y).toInt = x1.toInt + y.toInt := i_add (by omega) (by omega)
      have e2 : (x2 + w).toInt = x2.toInt + w.toInt := i_add (by omega) (by omega)
      refine ih (i + 1) _ _ (by omega) (by omega) ?_ ?_ (by omega) (by omega) (by omega) (by omega)
      · rw [e1, hx1, hy]; rfl
      · rw [e2, hx2, hw]; rfl
theorem fl_cost_ab {x : Nat → Int} {K : Int} (hK : 0 ≤ K) (hx : ∀ a, a < n → 0 ≤ x a ∧ x a ≤ K) : -(K * fl_S n (fun a => ab (cs a))) ≤ fl_cost n cs x ∧ fl_cost n cs x ≤ K * fl_S n (fun a => ab (cs a)) := by
  rw [← fl_S_mul]
  have e : -fl_S n (fun a => K * ab (cs a)) = fl_S n (fun a => -(K * ab (cs a))) := by
    have := fl_S_mul n (-1) (fun a => K * ab (cs a))
    rw [show (-1 : Int) * fl_S n (fun a => K * ab (cs a)) = -fl_S n (fun a => K * ab (cs a)) by omega] at this
    rw [← this]
    exact fl_S_congr (fun a _ => by omega)
  rw [e]
  have key : ∀ a, a < n → -(K * ab (cs a)) ≤ cs a * x a ∧ cs a * x a ≤ K * ab (cs a) := by
    intro a h
    obtain ⟨h1, h2⟩ := hx a h
    unfold ab
    split
    · rename_i q
      have p1 := Int.mul_nonneg q h1
      have p2 := Int.mul_le_mul_of_nonneg_left h2 q
      have p3 := Int.mul_nonneg hK q
      rw [Int.mul_comm K]
      rw [Int.mul_comm K] at p3
      omega
    · rename_i q
      have p1 := Int.mul_nonneg (show 0 ≤ -cs a by omega) h1
      have p2 := Int.mul_le_mul_of_nonneg_left h2 (show 0 ≤ -cs a by omega)
      have p3 := Int.mul_nonneg hK (show 0 ≤ -cs a by omega)
      rw [Int.mul_comm K]
      rw [Int.mul_comm K] at p3
      rw [Int.neg_mul] at p1 p2 p3 ⊢
      rw [Int.neg_mul] at p2
      omega
  exact ⟨fl_S_le (fun a h => (key a h).1), fl_S_le (fun a h => (key a h).2)⟩
/-- what solve leaves, if the network is solved -/
def so_I (σ : fl_St) (n : Nat) (fr to : Nat → Nat) (cp cs sp : Nat → Int) : Prop :=
  fl_Op n fr to cp cs sp (rv σ 5) ∧ (∀ k, k < n → 0 ≤ rv σ 5 k ∧ rv σ 5 k ≤ cM cp k ∧ rv σ 5 k ≤ 480000) ∧ (∃ pt, fl_Slk n fr to cp cs pt (rv σ 5)) ∧ (σ 13 2).toInt = fl_cost n cs (rv σ 5) ∧ -400000 ≤ fl_cost n cs (rv σ 5) ∧ fl_cost n cs (rv σ 5) ≤ 400000
theorem p_solve (hV : md_V n fr to cp cs) (hsp : ∀ v, v < 8 → -31 ≤ sp v ∧ sp v ≤ 31) (hsum : fl_S n (fun a => ab (cs a)) ≤ 440)
    (hsm : (∃ d, fl_PotU n fr to cp cs d) → (∃ y, fl_Fs n fr to cp sp y) → ∃ x, fl_Op n fr to cp cs sp x ∧ ∀ a, a < n → 0 ≤ x a ∧ x a ≤ 841) {σ : fl_St} (hN : md_N σ n fr to cp cs sp) :
    ∃ (r : Int32) (σ' : fl_St), f_X3_solve σ = some (r, σ') ∧ md_N σ' n fr to cp cs sp ∧
      ((r = -1000002 ∧ ¬ ∃ y, fl_Fs n fr to cp sp y) ∨ (r = -1000003 ∧ (∃ y, fl_Fs n fr to cp sp y) ∧ ¬ ∃ d, fl_PotU n fr to cp cs d) ∨ (r = 0 ∧ (∃ d, fl_PotU n fr to cp cs d) ∧ so_I σ' n fr to cp cs sp)) := by
  have har := hV.2.1
  have hn := hV.1
  have z : (0 : Int32).toInt = 0 := by decide
  obtain ⟨r1, r2, a1, a2, a3⟩ := p_solve6 (σ := σ) hsp (fun v hv => hN.2.2 v hv) fl_N 0 0 0 (by omega) (by unfold fl_N; omega) (by rfl) (by rfl) (by decide) (by decide) (by decide) (by decide)
  unfold f_X3_solve
  rw [show f_X3_solve_l6 σ fl_N 0 0 0 = some (r1, r2) from a1, fl_b2s]
  by_cases c1 : fl_pos sp = fl_neg sp
  · rw [if_pos (by rw [i_eq, a2, a3]; exact c1)]
    obtain ⟨r, σ1, b1, b2, ex, s, p1, p2, p3, p4, p5, p6, p7, p8⟩ := p_fillM hV hsp hN
    rw [b1, fl_b2s]
    have hs0 : fl_S 8 sp = 0 := by rw [fl_pn]; omega
    by_cases c2 : fl_pos ex = 0
    · rw [if_pos (by rw [i_eq, a2]; omega)]
      have hle : ∀ v, v < 8 → ex v ≤ 0 := fun v hv => fl_pos_le hv (by omega)
      have hse : fl_S 8 ex = 0 := by
        have q1 := fl_div_sum har.w (rv σ1 5)
        have q4 : fl_S 8 ex = fl_S 8 (fun v => sp v - fl_div n fr to (rv σ1 5) v) := fl_S_congr (fun v hv => p2 v hv)
        rw [fl_S_sub] at q4
        have q5 : fl_S 8 (fun v => sp v) = fl_S 8 sp := rfl
        have q6 : fl_S 8 (fl_div n fr to (rv σ1 5)) = 0 := q1
        omega
      have hex : ∀ v, v < 8 → ex v = 0 := fun v hv => by
        have h1 : fl_S 8 ex ≤ fl_S 8 (fun i => if i = v then ex i else 0) := fl_S_le (fun i hi => by
          by_cases e : i = v
          · rw [if_pos e]; exact Int.le_refl _
          · rw [if_neg e]; exact hle i hi)
        rw [fl_S_pick hv] at h1
        have := hle v hv
        omega
      have hdv : ∀ v, v < 8 → fl_div n fr to (rv σ1 5) v = sp v := fun v hv => by
        have h1 := p2 v hv
        have h2 := hex v hv
        omega
      have hfl : fl_Fs n fr to cp sp (rv σ1 5) := mf_Fs (K := 0) (fun k hk => ⟨(p1 k hk).1, (p1 k hk).2.1⟩) hdv
      obtain ⟨cg, la, T, w, σ2, d1, d2, d3, d4, d5⟩ := p_findRound (x1 := 1) (f := rv σ1 5) hV b2 rfl
      rw [d1, fl_b2s]
      have N2 := d2.N b2
      have e5 : rv σ2 5 = rv σ1 5 := rv_k (d2.1 5 (by decide) (by decide))
      rcases d3 with ⟨rfl, rfl⟩ | ⟨rfl, rfl⟩
      · rw [if_pos rfl]
        have hP : ∃ d, fl_PotU n fr to cp cs d := by
          obtain ⟨z1, z2, z3, -, -⟩ := bf_end d5
          refine ⟨rv σ2 8, fun a h c => ?_⟩
          have h1 : rv σ2 8 (fr a) ≤ 0 := z1 _ (har a h).1
          have := z3 (2 * a) (by omega) ⟨fun q => absurd q (by decide), fun _ => ⟨by omega, by rw [show 2 * a / 2 = a by omega]; exact c⟩⟩
          rw [lk_t0, lk_h0, lk_w0] at this
          exact this (by omega)
        obtain ⟨x, hx1, hx2⟩ := hsm hP ⟨_, hfl⟩
        have hlb : ∀ y, fl_Fs n fr to cp sp y → -370040 ≤ fl_cost n cs y := fun y hy => by
          have h1 := hx1.2 y hy
          have h2 := (fl_cost_ab (cs := cs) (K := 841) (by decide) hx2).1
          omega
        have hub := (fl_cost_ab (cs := cs) (K := 248) (by decide) (fun a h => ⟨(p1 a h).1, (p1 a h).2.2⟩)).2
        have hcc : fl_cost n cs (rv σ1 5) ≤ 109120 := by omega
        obtain ⟨cg3, la3, T3, w3, σ3, f1, f2, f3, f4, f5⟩ := p_findRound (x1 := 0) (f := rv σ1 5) hV N2 e5
        rw [f1, fl_b2s]
        have N3 := f2.N N2
        have g5 : rv σ3 5 = rv σ1 5 := (rv_k (f2.1 5 (by decide) (by decide))).trans e5
        have hmf : mf_I n fr to cp cs sp 109368 (rv σ3 5) := by
          rw [g5]
          refine ⟨fun k hk => ⟨(p1 k hk).1, (p1 k hk).2.1⟩, hdv, fun k hk => ?_⟩
          have := (p1 k hk).2.2
          omega
        obtain ⟨la4, T4, σ4, k1, k2, k3, k4, k5⟩ := p_cancel (K := 109368) (LB := 370040) hV hlb fl_N cg3 la3 T3 w3 σ3 (by rw [g5]; unfold fl_N; omega) f4 N3 f3 hmf (by rw [g5]; exact f5)
        rw [k1, fl_bs, fl_bs]
        have N4 : md_N σ4 n fr to cp cs sp := N3.mv (fun k hk => k2 k (by omega) (by omega) (by omega)) (by rw [k2 13 (by decide) (by decide) (by decide)])
        have N5 : md_N (st σ4 13 2 0) n fr to cp cs sp := N4.mv (fun k hk => st_k _ _ _ (by omega)) (st_j _ _ _ (by decide))
        have h5 : rv (st σ4 13 2 0) 5 = rv σ4 5 := rv_sk _ _ _ (by decide)
        have hlow := hlb _ (mf_Fs (K := 0) k4.1 k4.2.1)
        have hf480 : ∀ k, k < n → 0 ≤ rv σ4 5 k ∧ rv σ4 5 k ≤ 480000 := fun k hk => by
          have q1 := k4.1 k hk
          have q2 := k4.2.2 k hk
          omega
        obtain ⟨σ5, m1, m2, m3, m4, m5⟩ := p_total_in (f := rv σ4 5) (Kf := 480000) hV (by decide) hf480 fl_N 0 (st σ4 13 2 0) (by omega) (by unfold fl_N; omega) N5 h5 (by rw [st_s, z]; rfl) (by show -(60000000 * 0) ≤ (0 : Int); decide) (by show (0 : Int) ≤ 60000000 * 0; decide)
        rw [show f_X3_solve_l126 fl_N 0 (st σ4 13 2 0) = some σ5 from m1, fl_bs]
        have h55 : rv σ5 5 = rv σ4 5 := (rv_k (m2 5 (by decide))).trans h5
        have hsl := mf_slk (K := 109368) (LB := 370040) (by decide) hlb k4 k5 har
        have hop := fl_opt har (mf_Fs (K := 0) k4.1 k4.2.1) hsl
        have hopc := hop.2 _ hfl
        refine ⟨0, σ5, rfl, N5.mv (fun k hk => m2 k (by omega)) m3, Or.inr (Or.inr ⟨rfl, hP, ?_⟩)⟩
        unfold so_I
        rw [h55]
        exact ⟨hop, fun k hk => ⟨(k4.1 k hk).1, (k4.1 k hk).2, (hf480 k hk).2⟩, ⟨_, hsl⟩, m5, by omega, by omega⟩
      · have hla8 : la < 8 := by
          obtain ⟨tm, rd, ch, -, -, ⟨-, c2⟩, -⟩ := d5
          exact (c2 rfl).1
        have hne : nI la ≠ -1000004 := fun e => by
          have e2 := congrArg Int32.toInt e
          rw [nI_t (by omega), show (-1000004 : Int32).toInt = -1000004 by decide] at e2
          omega
        rw [if_neg hne]
        refine ⟨_, σ2, rfl, N2, Or.inr (Or.inl ⟨rfl, ⟨_, hfl⟩, fun hP => ?_⟩)⟩
        obtain ⟨d, hd⟩ := hP
        have := bf_few d5 ⟨d, fun j hj ho => by
          obtain ⟨o1, o2⟩ := ho.2 (by decide)
          obtain ⟨a, rfl⟩ : ∃ a, j = 2 * a := ⟨j / 2, by omega⟩
          rw [lk_t0, lk_h0, lk_w0]
          rw [show 2 * a / 2 = a by omega] at o2
          exact hd a (by omega) o2⟩
        omega
    · rw [if_neg (fun q => by rw [i_eq, a2] at q; omega)]
      have := fl_pos_0 ex
      exact ⟨_, σ1, rfl, b2, Or.inl ⟨rfl, ex_none har p2 p4 p5 p6 p7 p8 (by omega)⟩⟩
  · rw [if_neg (fun q => by rw [i_eq, a2, a3] at q; exact c1 q)]
    refine ⟨_, σ, rfl, hN, Or.inl ⟨rfl, fun ⟨y, hy⟩ => ?_⟩⟩
    have := fl_Fs_sum har hy
    rw [fl_pn] at this
    omega
end SOLVE2
