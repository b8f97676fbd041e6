/-! pure rows: the reference: goRound -/
def fu (f : Nat → Int) (j : Nat) (u : Int) : Nat → Int := fl_up f (j / 2) (if j % 2 = 0 then f (j / 2) + u else f (j / 2) - u)
theorem fu_div {n : Nat} {fr to : Nat → Nat} (f : Nat → Int) {j : Nat} (hj : j < 2 * n) (u : Int) (v : Nat) :
    fl_div n fr to (fu f j u) v = fl_div n fr to f v + ((if lk_tl fr to j = v then u else 0) - (if lk_hd fr to j = v then u else 0)) := by
  unfold fu lk_tl lk_hd
  rw [fl_div_up (by omega)]
  by_cases e : j % 2 = 0
  · rw [if_pos e, if_pos e, if_pos e, show f (j / 2) + u - f (j / 2) = u by omega]
  · rw [if_neg e, if_neg e, if_neg e, show f (j / 2) - u - f (j / 2) = -u by omega]
    split <;> split <;> omega
theorem fu_cost {n : Nat} {cs : Nat → Int} (f : Nat → Int) {j : Nat} (hj : j < 2 * n) (u : Int) : fl_cost n cs (fu f j u) = fl_cost n cs f + u * lk_w cs j := by
  unfold fu lk_w
  rw [fl_cost_up (by omega)]
  by_cases e : j % 2 = 0
  · rw [if_pos e, if_pos e, show f (j / 2) + u - f (j / 2) = u by omega, Int.mul_comm]
  · rw [if_neg e, if_neg e, show f (j / 2) - u - f (j / 2) = -u by omega, Int.mul_neg, Int.mul_neg, Int.mul_comm]
theorem rr_s (C f : Nat → Int) (j : Nat) (u : Int) : rr C (fu f j u) j = rr C f j - u := by
  unfold rr fu
  by_cases e : j % 2 = 0
  · rw [if_pos e, if_pos e, if_pos e, fl_up_s]; omega
  · rw [if_neg e, if_neg e, if_neg e, fl_up_s]
theorem rr_n (C f : Nat → Int) {j i : Nat} {u : Int} (h0 : 0 ≤ u) (h : i ≠ j) : rr C f i ≤ rr C (fu f j u) i := by
  unfold rr fu
  by_cases e2 : i / 2 = j / 2
  · rw [e2, fl_up_s]
    by_cases e : i % 2 = 0
    · rw [if_pos e, if_pos e, if_neg (by omega)]; omega
    · rw [if_neg e, if_neg e, if_pos (by omega)]; omega
  · rw [fl_up_n _ _ e2]
    exact Int.le_refl _
theorem fu_b {n : Nat} {C f : Nat → Int} (hb : ∀ k, k < n → 0 ≤ f k ∧ f k ≤ C k) {j : Nat} {u : Int} (h0 : 0 ≤ u) (hu : u ≤ rr C f j) : ∀ k, k < n → 0 ≤ fu f j u k ∧ fu f j u k ≤ C k := by
  intro k hk
  have h := hb k hk
  unfold fu
  by_cases e2 : k = j / 2
  · subst e2
    rw [fl_up_s]
    unfold rr at hu
    by_cases e : j % 2 = 0
    · rw [if_pos e] at hu ⊢; omega
    · rw [if_neg e] at hu ⊢; omega
  · rw [fl_up_n _ _ e2]; exact h
def itf (g : Nat → Nat) : Nat → Nat → Nat
  | 0, v => v
  | k + 1, v => itf g k (g v)
theorem itf_s (g : Nat → Nat) : ∀ (k v : Nat), itf g (k + 1) v = g (itf g k v) := by
  intro k
  induction k with
  | zero => intro v; rfl
  | succ k ih => intro v; rw [itf, ih]; rfl
theorem itf_add (g : Nat → Nat) (v : Nat) : ∀ (b a : Nat), itf g (a + b) v = itf g b (itf g a v) := by
  intro b
  induction b with
  | zero => intro a; rfl
  | succ b ih => intro a; rw [← Nat.add_assoc, itf_s, ih, itf_s]
theorem fl_pigeon (N : Nat) (g : Nat → Nat) (h : ∀ i, i ≤ N → g i < N) : ∃ i j, i < j ∧ j ≤ N ∧ g i = g j := by
  refine Classical.byContradiction fun q => ?_
  have hd : ((List.range (N + 1)).map g).Nodup := by
    rw [List.Nodup, List.pairwise_map]
    refine List.Pairwise.imp_of_mem ?_ List.pairwise_lt_range
    intro a b _ hb hab e
    exact q ⟨a, b, hab, by have := List.mem_range.mp hb; omega, e⟩
  have := fl_nodup_len N _ hd (fun x hx => by
    obtain ⟨i, hi, rfl⟩ := List.mem_map.mp hx
    exact h i (by have := List.mem_range.mp hi; omega))
  rw [List.length_map, List.length_range] at this
  omega
section GO
variable {n : Nat} {fr to : Nat → Nat} {cp cs sp : Nat → Int}
theorem by_of {σ : fl_St} {v j : Nat} (hj : j < 1000) (h : ef σ v = (j : Int)) : (j % 2 = 0 ∧ σ 9 v = nI (j / 2) ∧ ¬ σ 9 v < 0) ∨ (j % 2 = 1 ∧ -1 - σ 9 v = nI (j / 2) ∧ σ 9 v < 0) := by
  have h : bd (rv σ 9 v) = (j : Int) := h
  unfold bd at h
  have z : (0 : Int32).toInt = 0 := by decide
  have e : (-1 : Int32).toInt = -1 := by decide
  have e2 := nI_t (j := j / 2) (by omega)
  split at h
  · omega
  · split at h
    · refine Or.inl ⟨by omega, ?_, ?_⟩
      · rw [i_eq, e2]
        show rv σ 9 v = _
        omega
      · rw [i_lt, z]
        show ¬ rv σ 9 v < 0
        omega
    · refine Or.inr ⟨by omega, ?_, ?_⟩
      · have hb : rv σ 9 v = -1 - ((j / 2 : Nat) : Int) := by omega
        have hb : (σ 9 v).toInt = -1 - ((j / 2 : Nat) : Int) := hb
        rw [i_eq, i_sub (by rw [e, hb]; omega) (by rw [e, hb]; omega), e, hb, e2]
        omega
      · rw [i_lt, z]
        show rv σ 9 v < 0
        omega
theorem p_before (hV : md_V n fr to cp cs) {σ : fl_St} (hN : md_N σ n fr to cp cs sp) {v j : Nat} (hv : v < 8) (hj : j < 2 * n) (h : ef σ v = (j : Int)) : f_X3_before (nI v) σ = some (nI (lk_tl fr to j)) := by
  have hn := hV.1
  obtain ⟨q0, q1, -, -⟩ := hN.2.1 (j / 2) (by omega)
  unfold f_X3_before lk_tl
  rw [fl_rd_n (by omega) (by omega), fl_bs]
  rcases by_of (by omega) h with ⟨e, e1, e2⟩ | ⟨e, e1, e2⟩
  · rw [if_neg e2, e1, fl_rd_n (by omega) (by omega), fl_bs, fl_bs, if_pos e, q0]
  · rw [if_pos e2, e1, fl_rd_n (by omega) (by omega), fl_bs, fl_bs, if_neg (by omega), q1]
/-- the link by which v was entered last -/
abbrev eb (σ : fl_St) (v : Nat) : Nat := (ef σ v).toNat
abbrev nx (fr to : Nat → Nat) (σ : fl_St) (v : Nat) : Nat := lk_tl fr to (eb σ v)
/-- every node from v on has been entered -/
def go_A (n : Nat) (fr to : Nat → Nat) (cp cs f : Nat → Int) (σ : fl_St) (tm : Nat → Nat) (v : Nat) : Prop :=
  v < 8 ∧ eb σ v < 2 * n ∧ ef σ v = (eb σ v : Int) ∧ 0 < rr (cM cp) f (eb σ v) ∧ lk_hd fr to (eb σ v) = v ∧ ((rv σ 8 v = rv σ 8 (nx fr to σ v) + lk_w cs (eb σ v) ∧ tm (nx fr to σ v) < tm v) ∨ rv σ 8 (nx fr to σ v) + lk_w cs (eb σ v) < rv σ 8 v)
theorem go_all (hV : md_V n fr to cp cs) {f : Nat → Int} {la T : Nat} {σ : fl_St} (hI : fr_I n fr to cp cs f 0 8 (2 * n) true la T σ) :
    ∃ tm, (∀ m, go_A n fr to cp cs f σ tm (itf (nx fr to σ) m la)) ∧ ∃ p, 0 < p ∧ p ≤ 8 ∧ itf (nx fr to σ) p (itf (nx fr to σ) 8 la) = itf (nx fr to σ) 8 la := by
  obtain ⟨tm, rd, ch, ⟨g1, g2, g3, g4, g5⟩, -, ⟨-, c2⟩, -⟩ := hI
  obtain ⟨hla, -, hrd⟩ := c2 rfl
  have one : ∀ v, v < 8 → 0 ≤ rd v → go_A n fr to cp cs f σ tm v ∧ nx fr to σ v < 8 ∧ rd v - 1 ≤ rd (nx fr to σ v) := by
    intro v hv h0
    have hne : ef σ v ≠ -1 := fun e => by have := (g3 v hv e).2; omega
    obtain ⟨-, j, j1, j2, j3, j4, j5, j6, j7⟩ := g4 v hv hne
    have he : eb σ v = j := by show (ef σ v).toNat = j; rw [j2]; rfl
    refine ⟨⟨hv, by rw [he]; exact j1, by rw [he]; exact j2, by rw [he]; exact j3.1 rfl, by rw [he]; exact j4, ?_⟩, ?_, ?_⟩
    · have en : nx fr to σ v = lk_tl fr to j := by show lk_tl fr to (eb σ v) = _; rw [he]
      rw [en, he]
      exact j7
    · show lk_tl fr to (eb σ v) < 8
      rw [he]
      exact (lk_in hV.2.1 j1).1
    · show rd v - 1 ≤ rd (lk_tl fr to (eb σ v))
      rw [he]
      omega
  have low : ∀ m, m ≤ 8 → itf (nx fr to σ) m la < 8 ∧ (8 : Int) - m ≤ rd (itf (nx fr to σ) m la) := by
    intro m
    induction m with
    | zero => intro _; exact ⟨hla, by show (8 : Int) - 0 ≤ rd la; omega⟩
    | succ m ih =>
      intro hm
      obtain ⟨i1, i2⟩ := ih (by omega)
      obtain ⟨-, o2, o3⟩ := one _ i1 (by omega)
      rw [itf_s]
      exact ⟨o2, by omega⟩
  obtain ⟨i, j, hij, hj8, he⟩ := fl_pigeon 8 (fun m => itf (nx fr to σ) m la) (fun m hm => (low m hm).1)
  have he : itf (nx fr to σ) i la = itf (nx fr to σ) j la := he
  have per : ∀ t, itf (nx fr to σ) (i + t) la = itf (nx fr to σ) (j + t) la := fun t => by rw [itf_add, itf_add, he]
  refine ⟨tm, ?_, j - i, by omega, by omega, ?_⟩
  · have key : ∀ N m, m < N → go_A n fr to cp cs f σ tm (itf (nx fr to σ) m la) := by
      intro N
      induction N with
      | zero => intro m h; omega
      | succ N ih =>
        intro m hm
        by_cases c : m ≤ 8
        · obtain ⟨l1, l2⟩ := low m c
          exact (one _ l1 (by omega)).1
        · have := per (m - j)
          rw [show j + (m - j) = m by omega] at this
          rw [← this]
          exact ih _ (by omega)
    intro m
    exact key (m + 1) m (by omega)
  · have := per (8 - i)
    rw [show i + (8 - i) = 8 by omega, show j + (8 - i) = 8 + (j - i) by omega, itf_add _ _ (j - i) 8] at this
    exact this.symm
theorem p_go4 (hV : md_V n fr to cp cs) {f : Nat → Int} {σ : fl_St} {tm : Nat → Nat} (hN : md_N σ n fr to cp cs sp) {la : Nat} (hA : ∀ m, go_A n fr to cp cs f σ tm (itf (nx fr to σ) m la)) :
    ∀ (F i : Nat), i ≤ 8 → 8 - i < F → f_X3_goRound_l4 σ F (nI (itf (nx fr to σ) i la)) (nI i) = some (nI (itf (nx fr to σ) 8 la)) := by
  intro F
  induction F with
  | zero => intro i h1 h2; omega
  | succ F ih =>
    intro i h1 h2
    by_cases c : i = 8
    · subst c; rw [f_X3_goRound_l4]; rfl
    · obtain ⟨a1, a2, a3, -⟩ := hA i
      rw [f_X3_goRound_l4, if_neg (nI_8 (by omega)), p_before hV hN a1 a2 a3, fl_bs, nI_1]
      have := ih (i + 1) (by omega) (by omega)
      rw [itf_s] at this
      exact this
theorem p_left (hV : md_V n fr to cp cs) {f : Nat → Int} {σ : fl_St} (hN : md_N σ n fr to cp cs sp) (h5 : rv σ 5 = f) (hf : ∀ k, k < n → 0 ≤ f k ∧ f k ≤ cM cp k) {v j : Nat} (hv : v < 8) (hj : j < 2 * n) (h : ef σ v = (j : Int)) :
    ∃ t : Int32, (if σ 9 v < 0 then ((fl_rd σ 5 36 ((-1) - σ 9 v)).bind fun v24 => some (v24)) else ((fl_rd σ 2 36 (σ 9 v)).bind fun v27 => (fl_rd σ 5 36 (σ 9 v)).bind fun v30 => some ((v27 - v30)))) = some t ∧ t.toInt = rr (cM cp) f j := by
  have hn := hV.1
  obtain ⟨-, -, q2, -⟩ := hN.2.1 (j / 2) (by omega)
  have f5 : (σ 5 (j / 2)).toInt = f (j / 2) := by rw [← h5]
  have hb := hf (j / 2) (by omega)
  have hc : cM cp (j / 2) ≤ 1000000 := by have := (hV.2.2 (j / 2) (by omega)).1; unfold cM; split <;> omega
  unfold rr
  rcases by_of (by omega) h with ⟨e, e1, e2⟩ | ⟨e, e1, e2⟩
  · rw [if_neg e2, e1, fl_rd_n (by omega) (by omega), fl_bs, fl_rd_n (by omega) (by omega), fl_bs, if_pos e]
    refine ⟨_, rfl, ?_⟩
    rw [i_sub (by rw [q2, f5]; omega) (by rw [q2, f5]; omega), q2, f5]
  · rw [if_pos e2, e1, fl_rd_n (by omega) (by omega), fl_bs, if_neg (by omega)]
    exact ⟨_, rfl, f5⟩
theorem p_go31 (hV : md_V n fr to cp cs) {f : Nat → Int} {σ : fl_St} {tm : Nat → Nat} (hN : md_N σ n fr to cp cs sp) (h5 : rv σ 5 = f) (hf : ∀ k, k < n → 0 ≤ f k ∧ f k ≤ cM cp k) {v p : Nat} (hA : ∀ m, go_A n fr to cp cs f σ tm (itf (nx fr to σ) m v)) (hp : itf (nx fr to σ) p v = v) (hmin : ∀ i, 0 < i → i < p → itf (nx fr to σ) i v ≠ v) :
    ∀ (F t : Nat) (mo : Int32), t < p → p - t < F → 1 ≤ mo.toInt →
      ∃ mo' : Int32, f_X3_goRound_l31 (nI v) σ F mo (nI (itf (nx fr to σ) t v)) 1 = some (mo', nI v) ∧ 1 ≤ mo'.toInt ∧ mo'.toInt ≤ mo.toInt ∧ ∀ s, t ≤ s → s < p → mo'.toInt ≤ rr (cM cp) f (eb σ (itf (nx fr to σ) s v)) := by
  intro F
  induction F with
  | zero => intro t mo h1 h2; omega
  | succ F ih =>
    intro t mo ht hF hmo
    obtain ⟨a1, a2, a3, a4, a5, a6⟩ := hA t
    obtain ⟨x, ex, hx⟩ := p_left hV hN h5 hf a1 a2 a3
    rw [f_X3_goRound_l31, if_neg (by decide), fl_rd_n (by omega) (by omega), fl_bs, ex, fl_bs]
    obtain ⟨y, ey, y1, y2, y3⟩ : ∃ y : Int32, (if mo ≤ x then some mo else some x) = some y ∧ 1 ≤ y.toInt ∧ y.toInt ≤ mo.toInt ∧ y.toInt ≤ rr (cM cp) f (eb σ (itf (nx fr to σ) t v)) := by
      by_cases c : mo ≤ x
      · rw [if_pos c]
        rw [i_le] at c
        exact ⟨mo, rfl, hmo, Int.le_refl _, by omega⟩
      · rw [if_neg c]
        rw [i_le] at c
        exact ⟨x, rfl, by omega, by omega, by omega⟩
    rw [ey, fl_bs, p_before hV hN a1 a2 a3, fl_bs]
    have hnext : lk_tl fr to (eb σ (itf (nx fr to σ) t v)) = itf (nx fr to σ) (t + 1) v := (itf_s (nx fr to σ) t v).symm
    rw [hnext]
    by_cases c : t + 1 = p
    · have hv8 : v < 8 := (hA 0).1
      rw [c, hp, if_pos rfl, fl_bs]
      cases F with
      | zero => omega
      | succ F =>
        refine ⟨y, by rw [f_X3_goRound_l31]; rfl, y1, y2, fun s h1 h2 => ?_⟩
        rw [show s = t by omega]
        exact y3
    · have hne := hmin (t + 1) (by omega) (by omega)
      have h8 := (hA (t + 1)).1
      have hv8 : v < 8 := (hA 0).1
      rw [if_neg (fun q => hne ((nI_eq (by omega) (by omega)).mp q)), fl_bs]
      obtain ⟨mo', z1, z2, z3, z4⟩ := ih (t + 1) y (by omega) (by omega) y1
      refine ⟨mo', z1, z2, by omega, fun s h1 h2 => ?_⟩
      by_cases e : s = t
      · rw [e]; omega
      · exact z4 s (by omega) h2
end GO
