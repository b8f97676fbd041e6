/-! pure rows: the reference: pushAll -/
theorem wy_of {σ : fl_St} {v j : Nat} (hj : j < 1000) (h : bw (rv σ 11 v) = (j : Int)) : (j % 2 = 0 ∧ σ 11 v = nI (j / 2) ∧ ¬ σ 11 v < 0) ∨ (j % 2 = 1 ∧ -1 - σ 11 v = nI (j / 2) ∧ σ 11 v < 0) := by
  unfold bw at h
  have z : (0 : Int32).toInt = 0 := by decide
  have e : (-1 : Int32).toInt = -1 := by decide
  have e2 := nI_t (j := j / 2) (by omega)
  split at h
  · refine Or.inl ⟨by omega, ?_, ?_⟩
    · rw [i_eq, e2]
      show rv σ 11 v = _
      omega
    · rw [i_lt, z]
      show ¬ rv σ 11 v < 0
      omega
  · refine Or.inr ⟨by omega, ?_, ?_⟩
    · have hb : rv σ 11 v = -1 - ((j / 2 : Nat) : Int) := by omega
      have hb : (σ 11 v).toInt = -1 - ((j / 2 : Nat) : Int) := hb
      rw [i_eq, i_sub (by rw [e, hb]; omega) (by rw [e, hb]; omega), e, hb, e2]
      omega
    · rw [i_lt, z]
      show rv σ 11 v < 0
      omega
section PUSHALL
variable {M : Nat} {fr to : Nat → Nat} {C : Nat → Int} {al : Nat → Prop} {fi src : Nat}
abbrev lb (σ : fl_St) (v : Nat) : Nat := (bw (rv σ 11 v)).toNat
abbrev pr (fr to : Nat → Nat) (σ : fl_St) (v : Nat) : Nat := lk_tl fr to (lb σ v)
def wa_A (M : Nat) (fr to : Nat → Nat) (C f : Nat → Int) (al : Nat → Prop) (σ : fl_St) (v : Nat) : Prop := v < 10 ∧ lb σ v < 2 * M ∧ bw (rv σ 11 v) = (lb σ v : Int) ∧ o2 C f al (lb σ v) ∧ lk_hd fr to (lb σ v) = v
/-- the way back from v -/
theorem wa_ex {f : Nat → Int} {mn : Nat} {ps : Nat → Nat} {σ : fl_St} (ha : fl_Ar 10 M fr to) (hQ : bq_Q M fr to (o2 C f al) src mn ps σ) : ∀ (N v : Nat), ps v < N → v < 10 → σ 7 v = 1 →
    ∃ k, k ≤ ps v ∧ itf (pr fr to σ) k v = src ∧ (∀ i, i < k → itf (pr fr to σ) i v ≠ src ∧ wa_A M fr to C f al σ (itf (pr fr to σ) i v)) ∧ ∀ i j, i < j → j ≤ k → ps (itf (pr fr to σ) j v) < ps (itf (pr fr to σ) i v) := by
  intro N
  induction N with
  | zero => intro v h; omega
  | succ N ih =>
    intro v hN hv h7
    by_cases c : v = src
    · exact ⟨0, by omega, c, fun i hi => by omega, fun i j h1 h2 => by omega⟩
    · obtain ⟨j, j1, j2, j3, j4, j5, j6⟩ := hQ.2.2.2.2.2.2.2 v hv h7 c
      have el : lb σ v = j := by show (bw (rv σ 11 v)).toNat = j; rw [j2]; rfl
      have ep : pr fr to σ v = lk_tl fr to j := by show lk_tl fr to (lb σ v) = _; rw [el]
      obtain ⟨k, k1, k2, k3, k4⟩ := ih (pr fr to σ v) (by rw [ep]; omega) (by rw [ep]; exact (lk_in ha j1).1) (by rw [ep]; exact j5)
      have hsh : ∀ i, itf (pr fr to σ) (i + 1) v = itf (pr fr to σ) i (pr fr to σ v) := fun i => rfl
      refine ⟨k + 1, by rw [ep] at k1; omega, k2, fun i hi => ?_, fun i j' h1 h2 => ?_⟩
      · cases i with
        | zero => exact ⟨c, hv, by show lb σ v < _; rw [el]; exact j1, by show bw (rv σ 11 v) = (lb σ v : Int); rw [el]; exact j2, by show o2 C f al (lb σ v); rw [el]; exact j3, by show lk_hd fr to (lb σ v) = v; rw [el]; exact j4⟩
        | succ i => rw [hsh]; exact k3 i (by omega)
      · cases j' with
        | zero => omega
        | succ j' =>
          rw [hsh]
          cases i with
          | zero =>
            show ps _ < ps v
            by_cases c0 : j' = 0
            · subst c0
              show ps (pr fr to σ v) < ps v
              rw [ep]; exact j6
            · have := k4 0 j' (by omega) (by omega)
              have : ps (itf (pr fr to σ) j' (pr fr to σ v)) < ps (pr fr to σ v) := this
              rw [ep] at this ⊢
              omega
          | succ i => rw [hsh]; exact k4 i j' (by omega) (by omega)
theorem p_wleft (hfi : fi = 5 ∨ fi = 6) {f : Nat → Int} {σ : fl_St} (hX : ex_N σ M fr to C al) (hf : rv σ fi = f) (hb : ∀ k, k < M → 0 ≤ f k ∧ f k ≤ C k) {v : Nat} (hA : wa_A M fr to C f al σ v) :
    ∃ t : Int32, (if σ 11 v < 0 then ((fl_rd σ 11 10 (nI v)).bind fun v37 => (fl_rd σ fi 36 ((-1) - v37)).bind fun v40 => some (v40)) else ((fl_rd σ 11 10 (nI v)).bind fun v43 => (fl_rd σ 2 36 v43).bind fun v46 => (fl_rd σ 11 10 (nI v)).bind fun v49 => (fl_rd σ fi 36 v49).bind fun v52 => some ((v46 - v52)))) = some t ∧ t.toInt = rr C f (lb σ v) := by
  obtain ⟨a1, a2, a3, a4, a5⟩ := hA
  obtain ⟨-, hM, -, hX⟩ := hX
  obtain ⟨-, -, q2, -, q4, q5⟩ := hX (lb σ v / 2) (by omega)
  have ff : (σ fi (lb σ v / 2)).toInt = f (lb σ v / 2) := by rw [← hf]
  have hbk := hb (lb σ v / 2) (by omega)
  unfold rr
  rw [fl_rd_n a1 (by omega), fl_bs, fl_bs]
  rcases wy_of (by omega) a3 with ⟨e, e1, e2⟩ | ⟨e, e1, e2⟩
  · rw [if_neg e2, e1, fl_rd_n (by omega) (by omega), fl_bs, fl_bs, fl_rd_n (by omega) (by omega), fl_bs, if_pos e]
    refine ⟨_, rfl, ?_⟩
    rw [i_sub (by rw [q2, ff]; omega) (by rw [q2, ff]; omega), q2, ff]
  · rw [if_pos e2, e1, fl_rd_n (by omega) (by omega), fl_bs, if_neg (by omega)]
    exact ⟨_, rfl, ff⟩
theorem p_wback {f : Nat → Int} {σ : fl_St} (hX : ex_N σ M fr to C al) {v : Nat} (hv : v < 10) (h1 : lb σ v < 2 * M) (h2 : bw (rv σ 11 v) = (lb σ v : Int)) :
    (if σ 11 v < 0 then ((fl_rd σ 11 10 (nI v)).bind fun v25 => (fl_rd σ 1 36 ((-1) - v25)).bind fun v28 => some (v28)) else ((fl_rd σ 11 10 (nI v)).bind fun v31 => (fl_rd σ 0 36 v31).bind fun v34 => some (v34))) = some (nI (pr fr to σ v)) := by
  obtain ⟨-, hM, -, hX⟩ := hX
  obtain ⟨q0, q1, -⟩ := hX (lb σ v / 2) (by omega)
  have ep : pr fr to σ v = if lb σ v % 2 = 0 then fr (lb σ v / 2) else to (lb σ v / 2) := rfl
  rw [ep, fl_rd_n hv (by omega), fl_bs, fl_bs]
  rcases wy_of (by omega) h2 with ⟨e, e1, e2⟩ | ⟨e, e1, e2⟩
  · rw [if_neg e2, e1, fl_rd_n (by omega) (by omega), fl_bs, if_pos e, q0]
  · rw [if_pos e2, e1, fl_rd_n (by omega) (by omega), fl_bs, if_neg (by omega), q1]
theorem p_pa30 (hfi : fi = 5 ∨ fi = 6) {f : Nat → Int} {σ : fl_St} (hX : ex_N σ M fr to C al) (hf : rv σ fi = f) (hb : ∀ k, k < M → 0 ≤ f k ∧ f k ≤ C k) (hs : src < 10) {v K : Nat} (hK : itf (pr fr to σ) K v = src) (hW : ∀ i, i < K → itf (pr fr to σ) i v ≠ src ∧ wa_A M fr to C f al σ (itf (pr fr to σ) i v)) (x3 x4 x5 : Int32) :
    ∀ (F t : Nat) (mo : Int32), t ≤ K → K - t < F → 1 ≤ mo.toInt →
      ∃ mo' : Int32, f_X3_pushAll_l30 fi (nI src) x3 x4 x5 σ F mo (nI (itf (pr fr to σ) t v)) = some mo' ∧ 1 ≤ mo'.toInt ∧ mo'.toInt ≤ mo.toInt ∧ ∀ s, t ≤ s → s < K → mo'.toInt ≤ rr C f (lb σ (itf (pr fr to σ) s v)) := by
  intro F
  induction F with
  | zero => intro t mo h1 h2; omega
  | succ F ih =>
    intro t mo ht hF hmo
    by_cases c : t = K
    · subst c
      exact ⟨mo, by rw [f_X3_pushAll_l30, hK, if_pos rfl], hmo, Int.le_refl _, fun s h1 h2 => by omega⟩
    · obtain ⟨w1, w2⟩ := hW t (by omega)
      have w20 := w2
      obtain ⟨a1, a2, a3, a4, a5⟩ := w2
      obtain ⟨x, ex, hx⟩ := p_wleft hfi hX hf hb w20
      have ho : 0 < rr C f (lb σ (itf (pr fr to σ) t v)) := a4.2
      rw [f_X3_pushAll_l30, if_neg (fun q => w1 ((nI_eq (by omega) (by omega)).mp q)), fl_rd_n a1 (by omega), fl_bs]
      have ex2 := ex
      rw [fl_rd_n a1 (by omega)] at ex2
      rw [ex2, fl_bs]
      obtain ⟨y, ey, y1, y2, y3⟩ : ∃ y : Int32, (if mo ≤ x then some mo else some x) = some y ∧ 1 ≤ y.toInt ∧ y.toInt ≤ mo.toInt ∧ y.toInt ≤ rr C f (lb σ (itf (pr fr to σ) t v)) := by
        by_cases c : mo ≤ x
        · rw [if_pos c]
          rw [i_le] at c
          exact ⟨mo, rfl, hmo, Int.le_refl _, by omega⟩
        · rw [if_neg c]
          rw [i_le] at c
          exact ⟨x, rfl, by omega, by omega, by omega⟩
      have eb2 := p_wback (f := f) hX a1 a2 a3
      rw [fl_rd_n a1 (by omega)] at eb2
      rw [ey, fl_bs, fl_bs, eb2, fl_bs]
      have hnext : pr fr to σ (itf (pr fr to σ) t v) = itf (pr fr to σ) (t + 1) v := (itf_s (pr fr to σ) t v).symm
      rw [hnext]
      obtain ⟨mo', z1, z2, z3, z4⟩ := ih (t + 1) y (by omega) (by omega) y1
      refine ⟨mo', z1, z2, by omega, fun s h1 h2 => ?_⟩
      by_cases e : s = t
      · rw [e]; omega
      · exact z4 s (by omega) h2
def pg_G (M K : Nat) (fr to : Nat → Nat) (C f0 : Nat → Int) (al : Nat → Prop) (σ0 : fl_St) (v : Nat) (m : Int) (t : Nat) (ft : Nat → Int) : Prop :=
  (∀ k, k < M → 0 ≤ ft k ∧ ft k ≤ C k) ∧ (∀ s, t ≤ s → s < K → rr C f0 (lb σ0 (itf (pr fr to σ0) s v)) ≤ rr C ft (lb σ0 (itf (pr fr to σ0) s v))) ∧
  (∀ q, fl_div M fr to ft q = fl_div M fr to f0 q + ((if itf (pr fr to σ0) t v = q then m else 0) - (if v = q then m else 0))) ∧ (∀ k, k < M → ft k ≤ f0 k + m) ∧ ∀ k, k < M → ¬ al k → ft k = f0 k
theorem pg_G.step {K : Nat} {f0 ft : Nat → Int} {σ0 : fl_St} {v t : Nat} {m : Int} (hW : ∀ i, i < K → wa_A M fr to C f0 al σ0 (itf (pr fr to σ0) i v)) (hd : ∀ i j, i < j → j < K → itf (pr fr to σ0) i v ≠ itf (pr fr to σ0) j v) (ht : t < K) (h0 : 0 ≤ m) (hm : m ≤ rr C f0 (lb σ0 (itf (pr fr to σ0) t v)))
    (h : pg_G M K fr to C f0 al σ0 v m t ft) : pg_G M K fr to C f0 al σ0 v m (t + 1) (fu ft (lb σ0 (itf (pr fr to σ0) t v)) m) := by
  obtain ⟨b, r, dv, ub, hal⟩ := h
  obtain ⟨a1, a2, a3, a4, a5⟩ := hW t ht
  have rt := r t (Nat.le_refl _) ht
  have hnext : lk_tl fr to (lb σ0 (itf (pr fr to σ0) t v)) = itf (pr fr to σ0) (t + 1) v := (itf_s (pr fr to σ0) t v).symm
  refine ⟨fu_b b h0 (by omega), ?_, ?_, ?_, ?_⟩
  · intro s h1 h2
    have hne : lb σ0 (itf (pr fr to σ0) s v) ≠ lb σ0 (itf (pr fr to σ0) t v) := fun e => by
      have q1 := (hW s h2).2.2.2.2
      rw [e, a5] at q1
      exact hd t s (by omega) h2 q1
    exact Int.le_trans (r s (by omega) h2) (rr_n _ _ h0 hne)
  · intro q
    rw [fu_div _ a2, dv q, hnext, a5]
    omega
  · intro k hk
    have := ub k hk
    unfold fu
    by_cases e : k = lb σ0 (itf (pr fr to σ0) t v) / 2
    · rw [e, fl_up_s]
      rw [e] at this
      unfold rr at rt
      by_cases e2 : lb σ0 (itf (pr fr to σ0) t v) % 2 = 0
      · rw [if_pos e2] at rt ⊢
        rw [if_pos e2] at rt
        omega
      · rw [if_neg e2]; omega
    · rw [fl_up_n _ _ e]; exact this
  · intro k hk hna
    unfold fu
    by_cases e : k = lb σ0 (itf (pr fr to σ0) t v) / 2
    · exfalso
      rw [e] at hna
      exact hna a4.1
    · rw [fl_up_n _ _ e]; exact hal k hk hna
theorem p_wpush (hfi : fi = 5 ∨ fi = 6) {f : Nat → Int} {σ : fl_St} (hX : ex_N σ M fr to C al) (hf : rv σ fi = f) (hb : ∀ k, k < M → 0 ≤ f k ∧ f k ≤ C k) {v j : Nat} (hv : v < 10) (hj : j < 2 * M) (h : bw (rv σ 11 v) = (j : Int)) {mo : Int32} (hm : 0 ≤ mo.toInt ∧ mo.toInt ≤ 1000000) :
    ∃ σ' : fl_St, (if σ 11 v < 0 then ((fl_rd σ 11 10 (nI v)).bind fun v84 => (fl_rd σ fi 36 ((-1) - v84)).bind fun v87 => (fl_wr σ fi 36 ((-1) - v84) (v87 - mo)).bind fun σ90 => some (σ90)) else ((fl_rd σ 11 10 (nI v)).bind fun v93 => (fl_rd σ fi 36 v93).bind fun v96 => (fl_wr σ fi 36 v93 (v96 + mo)).bind fun σ99 => some (σ99))) = some σ' ∧ (∀ k, k ≠ fi → σ' k = σ k) ∧ rv σ' fi = fu f j mo.toInt := by
  obtain ⟨-, hM, -, hX⟩ := hX
  obtain ⟨-, -, q2, -, q4, q5⟩ := hX (j / 2) (by omega)
  have ff : (σ fi (j / 2)).toInt = f (j / 2) := by rw [← hf]
  have hbk := hb (j / 2) (by omega)
  unfold fu
  rw [fl_rd_n hv (by omega), fl_bs, fl_bs]
  rcases wy_of (by omega) h with ⟨e, e1, e2⟩ | ⟨e, e1, e2⟩
  · rw [if_neg e2, e1, fl_rd_n (by omega) (by omega), fl_bs, fl_wr_n (by omega) (by omega), fl_bs, if_pos e]
    refine ⟨_, rfl, fun k hk => st_k _ _ _ hk, ?_⟩
    rw [rv_st, hf, i_add (by rw [ff]; omega) (by rw [ff]; omega), ff]
  · rw [if_pos e2, e1, fl_rd_n (by omega) (by omega), fl_bs, fl_wr_n (by omega) (by omega), fl_bs, if_neg (by omega)]
    refine ⟨_, rfl, fun k hk => st_k _ _ _ hk, ?_⟩
    rw [rv_st, hf, i_sub (by rw [ff]; omega) (by rw [ff]; omega), ff]
theorem p_pa147 (hfi : fi = 5 ∨ fi = 6) {f0 : Nat → Int} {σ0 : fl_St} (hX : ex_N σ0 M fr to C al) (hs : src < 10) {v K : Nat} (hK : itf (pr fr to σ0) K v = src) (hW : ∀ i, i < K → itf (pr fr to σ0) i v ≠ src ∧ wa_A M fr to C f0 al σ0 (itf (pr fr to σ0) i v))
    (hd : ∀ i j, i < j → j < K → itf (pr fr to σ0) i v ≠ itf (pr fr to σ0) j v) {mo : Int32} (hm : 0 ≤ mo.toInt ∧ mo.toInt ≤ 1000000) (hmr : ∀ s, s < K → mo.toInt ≤ rr C f0 (lb σ0 (itf (pr fr to σ0) s v))) (x3 x4 x5 : Int32) :
    ∀ (F t : Nat) (σ : fl_St), t ≤ K → K - t < F → (∀ k, k ≠ fi → σ k = σ0 k) → pg_G M K fr to C f0 al σ0 v mo.toInt t (rv σ fi) →
      ∃ σ', f_X3_pushAll_l147 fi (nI src) x3 x4 x5 mo F (nI (itf (pr fr to σ0) t v)) σ = some σ' ∧ (∀ k, k ≠ fi → σ' k = σ0 k) ∧ pg_G M K fr to C f0 al σ0 v mo.toInt K (rv σ' fi) := by
  intro F
  induction F with
  | zero => intro t σ h1 h2; omega
  | succ F ih =>
    intro t σ ht hF hk hG
    by_cases c : t = K
    · subst c
      exact ⟨σ, by rw [f_X3_pushAll_l147, hK, if_pos rfl], hk, hG⟩
    · obtain ⟨w1, a1, a2, a3, a4, a5⟩ := hW t (by omega)
      have e11 : σ 11 = σ0 11 := hk 11 (by omega)
      have hbw : bw (rv σ 11 (itf (pr fr to σ0) t v)) = (lb σ0 (itf (pr fr to σ0) t v) : Int) := by rw [← a3, rv_k e11]
      have hXs : ex_N σ M fr to C al := hX.mv (hk 0 (by omega)) (hk 1 (by omega)) (hk 2 (by omega)) (hk 10 (by omega)) (hk 13 (by omega))
      obtain ⟨σ1, p1, p2, p3⟩ := p_wpush hfi hXs rfl hG.1 a1 a2 hbw hm
      rw [f_X3_pushAll_l147, if_neg (fun q => w1 ((nI_eq (by omega) (by omega)).mp q)), fl_rd_n a1 (by omega), fl_bs]
      have p1b := p1
      rw [fl_rd_n a1 (by omega)] at p1b
      rw [p1b, fl_bs]
      have hk1 : ∀ k, k ≠ fi → σ1 k = σ0 k := fun k h => (p2 k h).trans (hk k h)
      have hX1 : ex_N σ1 M fr to C al := hX.mv (hk1 0 (by omega)) (hk1 1 (by omega)) (hk1 2 (by omega)) (hk1 10 (by omega)) (hk1 13 (by omega))
      have e11b : rv σ1 11 = rv σ0 11 := rv_k (hk1 11 (by omega))
      have elb : lb σ1 (itf (pr fr to σ0) t v) = lb σ0 (itf (pr fr to σ0) t v) := by
        show (bw (rv σ1 11 _)).toNat = (bw (rv σ0 11 _)).toNat
        rw [e11b]
      have eb2 := p_wback (f := f0) hX1 a1 (by rw [elb]; exact a2) (by rw [elb, e11b]; exact a3)
      rw [fl_rd_n a1 (by omega)] at eb2
      rw [fl_rd_n a1 (by omega), fl_bs, eb2, fl_bs]
      have hnext : pr fr to σ1 (itf (pr fr to σ0) t v) = itf (pr fr to σ0) (t + 1) v := by
        rw [itf_s]
        show lk_tl fr to (lb σ1 _) = lk_tl fr to (lb σ0 _)
        rw [elb]
      rw [hnext]
      have hG1 := hG.step (fun i hi => (hW i hi).2) hd (by omega) hm.1 (hmr t (by omega))
      rw [← p3] at hG1
      exact ih (t + 1) σ1 (by omega) (by omega) hk1 hG1
end PUSHALL
