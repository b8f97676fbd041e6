/-! pure rows: measure -/
abbrev cl_op (σ : fl_St) (x1 : Int32) (j : Nat) : Prop := 0 < (σ 8 j).toInt ∧ nI (j / 2) ≠ x1
abbrev rv (σ : fl_St) (k : Nat) : Nat → Int := fun v => (σ k v).toInt
theorem rv_st (σ : fl_St) (k j : Nat) (x : Int32) : rv (st σ k j x) k = fl_up (rv σ k) j x.toInt := by
  funext v
  show (st σ k j x k v).toInt = if v = j then x.toInt else (σ k v).toInt
  rw [st_v]; split <;> rfl
theorem rv_sk (σ : fl_St) {k k' : Nat} (j : Nat) (x : Int32) (h : k' ≠ k) : rv (st σ k j x) k' = rv σ k' := by
  funext v
  show (st σ k j x k' v).toInt = (σ k' v).toInt
  rw [st_k _ _ _ h]
theorem nI_half {i : Nat} (h : i < 1000) : nI i >>> ((1 : Int32) &&& 31) = nI (i / 2) := pk_shrN (by omega) _ 1 (by decide)
theorem p_meas_step {σ : fl_St} {n : Nat} {fr to : Nat → Nat} {w : Nat → Int} (hn : n ≤ 20) (ha : fl_Ar 8 n fr to) (hl : cl_L σ n fr to w) {i : Nat} (hi : i < 2 * n)
    (hw : -100000 ≤ w i ∧ w i ≤ 100000) (hd : ∀ v, v < 8 → -500000000 ≤ rv σ 10 v ∧ rv σ 10 v ≤ 1000000000) (x1 x3 x2 : Int32) (f : Nat) :
    f_X1_measure_l19 x1 x3 (f + 1) x2 (nI i) σ =
      if cl_op σ x1 i ∧ rv σ 10 (lk_tl fr to i) < 1000000000 ∧ rv σ 10 (lk_tl fr to i) + w i < rv σ 10 (lk_hd fr to i)
      then f_X1_measure_l19 x1 x3 f 1 (nI (i + 1)) (st (st σ 10 (lk_hd fr to i) (σ 10 (lk_tl fr to i) + σ 7 i)) 11 (lk_hd fr to i) (nI i))
      else f_X1_measure_l19 x1 x3 f x2 (nI (i + 1)) σ := by
  obtain ⟨h1, h2, h3⟩ := lk_in ha hi
  obtain ⟨q1, q2, q3⟩ := hl.2 i hi
  have hdt := hd _ h1
  have hdh := hd _ h2
  rw [f_X1_measure_l19, hl.1, nI_2, if_neg (nI_ge (by omega) (by omega)), fl_rd_n (by omega) (by omega), fl_bs, nI_half (by omega), nI_1]
  have e8 : (σ 8 i ≤ 0) ↔ ¬ 0 < (σ 8 i).toInt := by
    rw [i_le]
    have : (0 : Int32).toInt = 0 := by decide
    omega
  by_cases c1 : cl_op σ x1 i
  · rw [if_neg (fun q => (e8.mp q) c1.1), if_neg c1.2, fl_bs, if_neg (by decide), fl_rd_n (by omega) (by omega), fl_bs, q1, fl_rd_n h1 (by omega), fl_bs]
    have e9 : ((1000000000 : Int32) ≤ σ 10 (lk_tl fr to i)) ↔ ¬ rv σ 10 (lk_tl fr to i) < 1000000000 := by
      rw [i_le]
      have : (1000000000 : Int32).toInt = 1000000000 := by decide
      show _ ↔ ¬ (σ 10 (lk_tl fr to i)).toInt < 1000000000
      omega
    by_cases c2 : rv σ 10 (lk_tl fr to i) < 1000000000
    · rw [if_neg (fun q => (e9.mp q) c2), p_isShortcut hn ha hl hi (by show _ ≤ rv σ 10 (lk_tl fr to i) + w i; omega) (by show rv σ 10 (lk_tl fr to i) + w i ≤ _; omega), fl_bs]
      by_cases c3 : rv σ 10 (lk_tl fr to i) + w i < rv σ 10 (lk_hd fr to i)
      · rw [if_pos c3, if_neg (by decide), if_pos ⟨c1, c2, c3⟩, fl_rd_n (by omega) (by omega), fl_bs, q2, fl_bs, fl_rd_n h1 (by omega), fl_bs, fl_rd_n (by omega) (by omega), fl_bs, fl_wr_n h2 (by omega), fl_bs, fl_rd_n (by omega) (by omega), fl_bs, st_k _ _ _ (by decide), q2, fl_wr_n h2 (by omega), fl_bs, fl_b2s]
      · rw [if_neg c3, if_pos rfl, if_neg (fun q => c3 q.2.2), fl_b2s]
    · rw [if_pos (e9.mpr c2), if_neg (fun q => c2 q.2.1), fl_b2s]
  · by_cases c2 : 0 < (σ 8 i).toInt
    · have c3 : nI (i / 2) = x1 := Classical.byContradiction fun q => c1 ⟨c2, q⟩
      rw [if_neg (fun q => (e8.mp q) c2), if_pos c3, fl_bs, if_pos rfl, fl_b2s, if_neg (fun q => c1 q.1)]
    · rw [if_pos (e8.mpr c2), fl_bs, if_pos rfl, fl_b2s, if_neg (fun q => c1 q.1)]
/-- which rows measure leaves alone -/
def cl_F (σ σ' : fl_St) : Prop := ∀ k, k ≠ 10 → k ≠ 11 → σ' k = σ k
theorem cl_F.rf {σ : fl_St} : cl_F σ σ := fun _ _ _ => rfl
theorem cl_F.tr {σ σ' σ'' : fl_St} (h : cl_F σ σ') (h' : cl_F σ' σ'') : cl_F σ σ'' := fun k a b => (h' k a b).trans (h k a b)
theorem cl_F.st1 {σ : fl_St} {j : Nat} {x : Int32} : cl_F σ (st σ 10 j x) := fun k a _ => st_k _ _ _ a
theorem cl_F.st2 {σ : fl_St} {j : Nat} {x : Int32} : cl_F σ (st σ 11 j x) := fun k _ a => st_k _ _ _ a
theorem cl_F.L {σ σ' : fl_St} (h : cl_F σ σ') {n : Nat} {fr to : Nat → Nat} {w : Nat → Int} (hl : cl_L σ n fr to w) : cl_L σ' n fr to w :=
  hl.mv (h 5 (by decide) (by decide)) (h 6 (by decide) (by decide)) (h 7 (by decide) (by decide)) (h 12 (by decide) (by decide))
theorem cl_F.op {σ σ' : fl_St} (h : cl_F σ σ') (x1 : Int32) : cl_op σ' x1 = cl_op σ x1 := by
  funext j
  unfold cl_op
  rw [h 8 (by decide) (by decide)]
def b2i (b : Bool) : Int32 := if b then 1 else 0
section MEAS
variable {n : Nat} {fr to : Nat → Nat} {w : Nat → Int} {x1 x3 : Int32} {op : Nat → Prop} {ini : Nat → Int} {r : Nat}
theorem p_meas_in (hn : n ≤ 20) (ha : fl_Ar 8 n fr to) (hw : ∀ j, j < 2 * n → -50461 ≤ w j ∧ w j ≤ 50461) :
    ∀ (f i : Nat) (cg : Bool) (la T : Nat) (σ : fl_St), i ≤ 2 * n → 2 * n - i < f → T + 2 * n ≤ 400 + i → cl_L σ n fr to w → cl_op σ x1 = op → (∀ v, v < 8 → ini v ≤ 1000000000) →
      bf_I 8 (2 * n) op (lk_tl fr to) (lk_hd fr to) w 1000000000 50461 ini r i cg la T (rv σ 10) (rv σ 11) →
      ∃ (cg' : Bool) (la' : Nat) (σ' : fl_St), f_X1_measure_l19 x1 x3 f (b2i cg) (nI i) σ = some (b2i cg', σ') ∧ cl_F σ σ' ∧
        bf_I 8 (2 * n) op (lk_tl fr to) (lk_hd fr to) w 1000000000 50461 ini r (2 * n) cg' la' (T + (2 * n - i)) (rv σ' 10) (rv σ' 11) := by
  intro f
  induction f with
  | zero => intro i cg la T σ h1 h2; omega
  | succ f ih =>
    intro i cg la T σ h1 h2 hT hl ho hi hI
    by_cases c : i = 2 * n
    · subst c
      refine ⟨cg, la, σ, ?_, cl_F.rf, by rw [show 2 * n - 2 * n = 0 by omega]; exact hI⟩
      rw [f_X1_measure_l19, hl.1, nI_2, if_pos (nI_le (Nat.le_refl _) (by omega))]
    · have hlt : i < 2 * n := by omega
      have hb : ∀ v, v < 8 → -500000000 ≤ rv σ 10 v ∧ rv σ 10 v ≤ 1000000000 := by
        intro v hv
        obtain ⟨tm, rd, ch, ⟨g1, g2, g3, g4, g5⟩, -, -, gb⟩ := hI
        have e1 := g2 v hv
        have e2 := hi v hv
        by_cases c4 : rv σ 10 v < 1000000000
        · have := gb v hv c4
          have e3 : (50461 : Int) * T ≤ 50461 * 400 := Int.mul_le_mul_of_nonneg_left (by omega) (by decide)
          omega
        · omega
      obtain ⟨k1, k2, k3⟩ := lk_in ha hlt
      have hwi := hw i hlt
      rw [p_meas_step hn ha hl hlt (by omega) hb]
      rw [show T + (2 * n - i) = (T + 1) + (2 * n - (i + 1)) by omega]
      by_cases c5 : cl_op σ x1 i ∧ rv σ 10 (lk_tl fr to i) < 1000000000 ∧ rv σ 10 (lk_tl fr to i) + w i < rv σ 10 (lk_hd fr to i)
      · rw [if_pos c5]
        have hF : cl_F σ (st (st σ 10 (lk_hd fr to i) (σ 10 (lk_tl fr to i) + σ 7 i)) 11 (lk_hd fr to i) (nI i)) := cl_F.tr cl_F.st1 cl_F.st2
        have e10 : rv (st (st σ 10 (lk_hd fr to i) (σ 10 (lk_tl fr to i) + σ 7 i)) 11 (lk_hd fr to i) (nI i)) 10 = fl_up (rv σ 10) (lk_hd fr to i) (rv σ 10 (lk_tl fr to i) + w i) := by
          rw [rv_sk _ _ _ (by decide), rv_st]
          have hb1 := hb _ k1
          have e : (σ 10 (lk_tl fr to i) + σ 7 i).toInt = rv σ 10 (lk_tl fr to i) + w i := by
            have q3 := (hl.2 i hlt).2.2
            rw [i_add (by rw [q3]; show _ ≤ rv σ 10 (lk_tl fr to i) + w i; omega) (by rw [q3]; show rv σ 10 (lk_tl fr to i) + w i ≤ _; omega), q3]
          rw [e]
        have e11 : rv (st (st σ 10 (lk_hd fr to i) (σ 10 (lk_tl fr to i) + σ 7 i)) 11 (lk_hd fr to i) (nI i)) 11 = fl_up (rv σ 11) (lk_hd fr to i) (i : Int) := by
          rw [rv_st, nI_t (by omega), rv_sk _ _ _ (by decide)]
        have hB : (50461 : Int) * ((T + 1 : Nat) : Int) ≤ 50461 * 500 := Int.mul_le_mul_of_nonneg_left (by omega) (by decide)
        have hI' := bf_step (by decide) hlt k1 k2 k3 hwi (by omega) hI (by rw [← ho]; exact c5.1) c5.2.1 c5.2.2
        obtain ⟨cg', la', σ', e1, e2, e3⟩ := ih (i + 1) true (lk_hd fr to i) (T + 1) _ (by omega) (by omega) (by omega) (hF.L hl) ((hF.op x1).trans ho) hi (by rw [e10, e11]; exact hI')
        exact ⟨cg', la', σ', e1, hF.tr e2, e3⟩
      · rw [if_neg c5]
        have hI' := bf_skip (by decide) hI (fun q => c5 ⟨by rw [ho]; exact q.1, q.2⟩)
        exact ih (i + 1) cg la (T + 1) σ (by omega) (by omega) (by omega) hl ho hi hI'
theorem p_meas_out (hn : n ≤ 20) (ha : fl_Ar 8 n fr to) (hw : ∀ j, j < 2 * n → -50461 ≤ w j ∧ w j ≤ 50461) (hp : ∃ pt, bf_Pot (2 * n) op (lk_tl fr to) (lk_hd fr to) w pt) :
    ∀ (f r : Nat) (la T : Nat) (σ : fl_St), r ≤ 7 → 9 - r < f → T ≤ 1 + r * (2 * n) → cl_L σ n fr to w → cl_op σ x1 = op → (∀ v, v < 8 → ini v ≤ 1000000000) →
      bf_I 8 (2 * n) op (lk_tl fr to) (lk_hd fr to) w 1000000000 50461 ini r 0 false la T (rv σ 10) (rv σ 11) →
      ∃ (T' : Nat) (σ' : fl_St), f_X1_measure_l4 x1 f 1 (nI r) σ = some σ' ∧ cl_F σ σ' ∧ T' ≤ 400 ∧ bf_Z 8 (2 * n) op (lk_tl fr to) (lk_hd fr to) w 1000000000 50461 ini T' (rv σ' 10) (rv σ' 11) := by
  intro f
  induction f with
  | zero => intro r la T σ h1 h2; omega
  | succ f ih =>
    intro r la T σ hr hf hT hl ho hi hI
    have hT2 : r * (2 * n) ≤ r * 40 := Nat.mul_le_mul_left _ (by omega)
    obtain ⟨cg', la', σ', e1, e2, e3⟩ := p_meas_in (x3 := nI r) hn ha hw fl_N 0 false la T σ (by omega) (by unfold fl_N; omega) (by omega) hl ho hi hI
    rw [f_X1_measure_l4, if_neg (by decide), if_neg (show ¬ (8 : Int32) ≤ nI r from nI_ge (a := r) (b := 8) (by omega) (by omega))]
    have e1 : f_X1_measure_l19 x1 (nI r) fl_N 0 0 σ = some (b2i cg', σ') := e1
    rw [e1, fl_b2s, nI_1]
    cases cg' with
    | false =>
      refine ⟨T + (2 * n - 0), σ', ?_, e2, by omega, bf_end e3⟩
      cases f with
      | zero => omega
      | succ f =>
        rw [f_X1_measure_l4]
        rfl
    | true =>
      have := bf_few e3 hp
      obtain ⟨T', σ'', a1, a2, a3, a4⟩ := ih (r + 1) 0 (T + (2 * n - 0)) σ' (by omega) (by omega) (by rw [Nat.succ_mul r (2 * n)]; omega) (e2.L hl) ((e2.op x1).trans ho) hi (bf_round e3 0)
      exact ⟨T', σ'', a1, e2.tr a2, a3, a4⟩
theorem p_measure (hn : n ≤ 20) (ha : fl_Ar 8 n fr to) (hw : ∀ j, j < 2 * n → -50461 ≤ w j ∧ w j ≤ 50461) {σ : fl_St} (hl : cl_L σ n fr to w)
    (hi : ∀ v, v < 8 → rv σ 10 v = 1000000000 ∨ rv σ 10 v = 0) (he : ∀ v, v < 8 → rv σ 11 v = -1) (hp : ∃ pt, bf_Pot (2 * n) (cl_op σ x1) (lk_tl fr to) (lk_hd fr to) w pt) :
    ∃ (T' : Nat) (σ' : fl_St), f_X1_measure x1 σ = some σ' ∧ cl_F σ σ' ∧ T' ≤ 400 ∧ bf_Z 8 (2 * n) (cl_op σ x1) (lk_tl fr to) (lk_hd fr to) w 1000000000 50461 (rv σ 10) T' (rv σ' 10) (rv σ' 11) := by
  have h0 := bf_start (N := 8) (m := 2 * n) (op := cl_op σ x1) (tl := lk_tl fr to) (hd := lk_hd fr to) (w := w) (F := 1000000000) (B := 50461) (la := 0) (by decide) hi he (fun v _ => rfl)
  obtain ⟨T', σ', a1, a2, a3, a4⟩ := p_meas_out hn ha hw hp fl_N 0 0 1 σ (by omega) (by unfold fl_N; omega) (by omega) hl rfl (fun v hv => by rcases hi v hv with e | e <;> rw [e] <;> decide) h0
  refine ⟨T', σ', ?_, a2, a3, a4⟩
  unfold f_X1_measure
  rw [show f_X1_measure_l4 x1 fl_N 1 0 σ = some σ' from a1, fl_bs]
end MEAS
