/-! pure rows: the reference: isReached -/
/-- the arcs that pushAll sees: M of them between 10 nodes, capacities C, those of al allowed -/
def ex_N (σ : fl_St) (M : Nat) (fr to : Nat → Nat) (C : Nat → Int) (al : Nat → Prop) : Prop :=
  σ 13 1 = nI M ∧ M ≤ 36 ∧ fl_Ar 10 M fr to ∧ ∀ k, k < M → σ 0 k = nI (fr k) ∧ σ 1 k = nI (to k) ∧ (σ 2 k).toInt = C k ∧ ((σ 10 k = 0 ∧ ¬ al k) ∨ (σ 10 k = 1 ∧ al k)) ∧ 0 ≤ C k ∧ C k ≤ 1000000
theorem ex_N.mv {σ σ' : fl_St} {M : Nat} {fr to : Nat → Nat} {C : Nat → Int} {al : Nat → Prop} (h : ex_N σ M fr to C al) (e0 : σ' 0 = σ 0) (e1 : σ' 1 = σ 1) (e2 : σ' 2 = σ 2) (e10 : σ' 10 = σ 10) (e13 : σ' 13 = σ 13) : ex_N σ' M fr to C al := by
  unfold ex_N
  rw [e0, e1, e2, e10, e13]
  exact h
def o2 (C f : Nat → Int) (al : Nat → Prop) (j : Nat) : Prop := al (j / 2) ∧ 0 < rr C f j
section BFS
variable {M : Nat} {fr to : Nat → Nat} {C f : Nat → Int} {al : Nat → Prop} {fi : Nat}
theorem p_leftFrom (hfi : fi = 5 ∨ fi = 6) {σ : fl_St} (hX : ex_N σ M fr to C al) (hf : rv σ fi = f) (hb : ∀ k, k < M → 0 ≤ f k ∧ f k ≤ C k) {k u : Nat} (hk : k < M) (hu : u < 10) :
    ∃ t : Int32, f_X3_leftFrom fi (nI k) (nI u) σ = some t ∧ ((fr k = u ∧ (0 < t.toInt ↔ o2 C f al (2 * k))) ∨ (fr k ≠ u ∧ to k = u ∧ (0 < t.toInt ↔ o2 C f al (2 * k + 1))) ∨ (fr k ≠ u ∧ to k ≠ u ∧ ¬ 0 < t.toInt)) := by
  obtain ⟨-, hM, ha, hX⟩ := hX
  obtain ⟨q0, q1, q2, q3, q4, q5⟩ := hX k hk
  obtain ⟨a1, a2, a3⟩ := ha k hk
  have z : (0 : Int32).toInt = 0 := by decide
  have ff : (σ fi k).toInt = f k := by rw [← hf]
  have hbk := hb k hk
  unfold f_X3_leftFrom o2
  rw [rr_0, rr_1, show 2 * k / 2 = k by omega, show (2 * k + 1) / 2 = k by omega, fl_rd_n (by omega) (by omega), fl_bs]
  rcases q3 with ⟨e, ea⟩ | ⟨e, ea⟩
  · rw [e, if_pos rfl, fl_bs]
    refine ⟨0, rfl, ?_⟩
    rw [z]
    by_cases c1 : fr k = u
    · exact Or.inl ⟨c1, (fun q => by omega), fun q => absurd q.1 ea⟩
    · by_cases c2 : to k = u
      · exact Or.inr (Or.inl ⟨c1, c2, (fun q => by omega), fun q => absurd q.1 ea⟩)
      · exact Or.inr (Or.inr ⟨c1, c2, by omega⟩)
  · rw [e, if_neg (by decide), fl_rd_n (by omega) (by omega), fl_bs, q0]
    by_cases c1 : fr k = u
    · rw [if_pos (by rw [c1]), fl_rd_n (by omega) (by omega), fl_bs, fl_rd_n (by omega) (by omega), fl_bs, fl_bs]
      refine ⟨_, rfl, Or.inl ⟨c1, ?_⟩⟩
      rw [i_sub (by rw [q2, ff]; omega) (by rw [q2, ff]; omega), q2, ff]
      exact ⟨fun q => ⟨ea, q⟩, fun q => q.2⟩
    · rw [if_neg (fun q => c1 ((nI_eq (by omega) (by omega)).mp q)), fl_rd_n (by omega) (by omega), fl_bs, q1]
      by_cases c2 : to k = u
      · rw [if_pos (by rw [c2]), fl_rd_n (by omega) (by omega), fl_bs, fl_bs]
        refine ⟨_, rfl, Or.inr (Or.inl ⟨c1, c2, ?_⟩)⟩
        rw [ff]
        exact ⟨fun q => ⟨ea, q⟩, fun q => q.2⟩
      · rw [if_neg (fun q => c2 ((nI_eq (by omega) (by omega)).mp q)), fl_bs]
        exact ⟨_, rfl, Or.inr (Or.inr ⟨c1, c2, by rw [z]; omega⟩)⟩
/-- the way into a node, as a link -/
def bw (b : Int) : Int := if 0 ≤ b then 2 * b else 2 * (-1 - b) + 1
/-- the queue: mn nodes seen, in their order ps; each but the first was entered by a link out of an earlier one -/
def bq_Q (M : Nat) (fr to : Nat → Nat) (op : Nat → Prop) (src mn : Nat) (ps : Nat → Nat) (σ : fl_St) : Prop :=
  0 < mn ∧ mn ≤ 10 ∧ (∀ v, v < 10 → σ 7 v = 0 ∨ (σ 7 v = 1 ∧ ps v < mn ∧ σ 12 (ps v) = nI v)) ∧ (∀ i, i < mn → ∃ v, v < 10 ∧ σ 12 i = nI v ∧ σ 7 v = 1 ∧ ps v = i) ∧ src < 10 ∧ σ 7 src = 1 ∧ ps src = 0 ∧
  ∀ v, v < 10 → σ 7 v = 1 → v ≠ src → ∃ j : Nat, j < 2 * M ∧ bw (rv σ 11 v) = (j : Int) ∧ op j ∧ lk_hd fr to j = v ∧ σ 7 (lk_tl fr to j) = 1 ∧ ps (lk_tl fr to j) < ps v
/-- the links out of the first at nodes of the queue, and the first k arcs of the next, lead to nodes that are seen -/
def bq_P (M : Nat) (fr to : Nat → Nat) (op : Nat → Prop) (at_ k : Nat) (ps : Nat → Nat) (σ : fl_St) : Prop :=
  ∀ j, j < 2 * M → op j → σ 7 (lk_tl fr to j) = 1 → (ps (lk_tl fr to j) < at_ ∨ (ps (lk_tl fr to j) = at_ ∧ j / 2 < k)) → σ 7 (lk_hd fr to j) = 1
def bq_F (σ σ' : fl_St) : Prop := ∀ k, k ≠ 7 → k ≠ 11 → k ≠ 12 → σ' k = σ k
theorem bq_F.rf {σ : fl_St} : bq_F σ σ := fun _ _ _ _ => rfl
theorem bq_F.tr {σ σ' σ'' : fl_St} (h : bq_F σ σ') (h' : bq_F σ' σ'') : bq_F σ σ'' := fun k a b c => (h' k a b c).trans (h k a b c)
theorem bq_F.X {σ σ' : fl_St} (h : bq_F σ σ') (hX : ex_N σ M fr to C al) : ex_N σ' M fr to C al := hX.mv (h 0 (by decide) (by decide) (by decide)) (h 1 (by decide) (by decide) (by decide)) (h 2 (by decide) (by decide) (by decide)) (h 10 (by decide) (by decide) (by decide)) (h 13 (by decide) (by decide) (by decide))
theorem bq_F.fl {σ σ' : fl_St} (h : bq_F σ σ') (hfi : fi = 5 ∨ fi = 6) (hf : rv σ fi = f) : rv σ' fi = f := by
  rw [← hf]
  exact rv_k (h fi (by omega) (by omega) (by omega))
/-- a new node comes into the queue -/
theorem bq_new {op : Nat → Prop} {src mn : Nat} {ps : Nat → Nat} {σ : fl_St} (hQ : bq_Q M fr to op src mn ps σ) {j v : Nat} (hj : j < 2 * M) (ho : op j) (hh : lk_hd fr to j = v) (hv : v < 10) (hs : σ 7 (lk_tl fr to j) = 1) (ht : lk_tl fr to j < 10) (hn : σ 7 v = 0) {y : Int32} (hy : bw y.toInt = (j : Int)) :
    mn < 10 ∧ bq_Q M fr to op src (mn + 1) (fun x => if x = v then mn else ps x) (st (st (st σ 7 v 1) 11 v y) 12 mn (nI v)) ∧ ∀ x, x < 10 → σ 7 x = 1 → (if x = v then mn else ps x) = ps x := by
  obtain ⟨q1, q2, q3, q4, q5, q6, q7, q8⟩ := hQ
  have n01 : (0 : Int32) ≠ 1 := by decide
  have hne : ∀ x, σ 7 x = 1 → x ≠ v := fun x h e => by rw [e, hn] at h; exact n01 h
  have hlt : mn < 10 := by
    refine Nat.not_le.mp fun h => ?_
    have h10 : mn = 10 := by omega
    obtain ⟨g, hg⟩ : ∃ g : Nat → Nat, ∀ i, i < 10 → g i < 10 ∧ σ 7 (g i) = 1 ∧ ps (g i) = i := by
      refine ⟨fun i => (σ 12 i).toNatClampNeg, fun i hi => ?_⟩
      obtain ⟨x, x1, x2, x3, x4⟩ := q4 i (by omega)
      have e : (σ 12 i).toNatClampNeg = x := by rw [x2]; exact nI_clamp (by omega)
      show (σ 12 i).toNatClampNeg < 10 ∧ σ 7 (σ 12 i).toNatClampNeg = 1 ∧ ps (σ 12 i).toNatClampNeg = i
      rw [e]
      exact ⟨x1, x3, x4⟩
    obtain ⟨i, k, hik, hk, he⟩ := fl_pigeon 10 (fun i => if i = 10 then v else g i) (fun i hi => by
      show (if i = 10 then v else g i) < 10
      split
      · exact hv
      · exact (hg i (by omega)).1)
    have he : (if i = 10 then v else g i) = (if k = 10 then v else g k) := he
    rw [if_neg (by omega)] at he
    by_cases c : k = 10
    · rw [if_pos c] at he
      exact hne _ (hg i (by omega)).2.1 he
    · rw [if_neg c] at he
      have h1 := (hg i (by omega)).2.2
      have h2 := (hg k (by omega)).2.2
      rw [he] at h1
      omega
  have hps : ∀ x, x < 10 → σ 7 x = 1 → (if x = v then mn else ps x) = ps x := fun x _ h => if_neg (hne x h)
  have hpl : ∀ x, x < 10 → σ 7 x = 1 → ps x < mn := fun x hx h => by
    rcases q3 x hx with e | e
    · rw [e] at h; exact absurd h n01
    · exact e.2.1
  refine ⟨hlt, ⟨by omega, by omega, ?_, ?_, q5, ?_, ?_, ?_⟩, hps⟩
  · intro x hx
    rw [st_k (k' := 7) _ _ _ (by decide), st_k (k' := 7) _ _ _ (by decide), st_v]
    show (if x = v then (1 : Int32) else σ 7 x) = 0 ∨ ((if x = v then (1 : Int32) else σ 7 x) = 1 ∧ (if x = v then mn else ps x) < mn + 1 ∧ st (st (st σ 7 v 1) 11 v y) 12 mn (nI v) 12 (if x = v then mn else ps x) = nI x)
    by_cases c : x = v
    · rw [if_pos c, if_pos c]
      exact Or.inr ⟨rfl, by omega, by rw [st_s, c]⟩
    · rw [if_neg c, if_neg c]
      rcases q3 x hx with e | ⟨e1, e2, e3⟩
      · exact Or.inl e
      · exact Or.inr ⟨e1, by omega, by rw [st_j _ _ _ (by omega), st_k _ _ _ (by decide), st_k _ _ _ (by decide)]; exact e3⟩
  · intro i hi
    by_cases c : i = mn
    · refine ⟨v, hv, by rw [c, st_s], ?_, by show (if v = v then mn else ps v) = i; rw [if_pos rfl, c]⟩
      rw [st_k (k' := 7) _ _ _ (by decide), st_k (k' := 7) _ _ _ (by decide), st_s]
    · obtain ⟨x, x1, x2, x3, x4⟩ := q4 i (by omega)
      refine ⟨x, x1, ?_, ?_, ?_⟩
      · rw [st_j _ _ _ c, st_k _ _ _ (by decide), st_k _ _ _ (by decide)]; exact x2
      · rw [st_k (k' := 7) _ _ _ (by decide), st_k (k' := 7) _ _ _ (by decide), st_j _ _ _ (hne x x3)]; exact x3
      · show (if x = v then mn else ps x) = i
        rw [if_neg (hne x x3)]; exact x4
  · rw [st_k (k' := 7) _ _ _ (by decide), st_k (k' := 7) _ _ _ (by decide), st_j _ _ _ (hne src q6)]; exact q6
  · show (if src = v then mn else ps src) = 0
    rw [if_neg (hne src q6)]; exact q7
  · intro x hx h7 hxs
    rw [st_k (k' := 7) _ _ _ (by decide), st_k (k' := 7) _ _ _ (by decide)] at h7
    by_cases c : x = v
    · refine ⟨j, hj, ?_, ho, by rw [c]; exact hh, ?_, ?_⟩
      · rw [rv_sk (k' := 11) _ _ _ (by decide), rv_st, c, fl_up_s]; exact hy
      · rw [st_k (k' := 7) _ _ _ (by decide), st_k (k' := 7) _ _ _ (by decide), st_j _ _ _ (hne _ hs)]; exact hs
      · show (if lk_tl fr to j = v then mn else ps (lk_tl fr to j)) < (if x = v then mn else ps x)
        rw [if_neg (hne _ hs), if_pos c]
        exact hpl _ ht hs
    · rw [st_j _ _ _ c] at h7
      obtain ⟨i, i1, i2, i3, i4, i5, i6⟩ := q8 x hx h7 hxs
      refine ⟨i, i1, ?_, i3, i4, ?_, ?_⟩
      · rw [rv_sk (k' := 11) _ _ _ (by decide), rv_st, fl_up_n _ _ c, rv_sk (k' := 11) _ _ _ (by decide)]; exact i2
      · rw [st_k (k' := 7) _ _ _ (by decide), st_k (k' := 7) _ _ _ (by decide), st_j _ _ _ (hne _ i5)]; exact i5
      · show (if lk_tl fr to i = v then mn else ps (lk_tl fr to i)) < (if x = v then mn else ps x)
        rw [if_neg (hne _ i5), if_neg c]; exact i6
end BFS
