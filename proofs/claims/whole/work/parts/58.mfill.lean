/-! pure rows: the reference: fill -/
theorem fl_div_cg {n : Nat} {fr to fr' to' : Nat → Nat} (h : ∀ a, a < n → fr a = fr' a ∧ to a = to' a) (x : Nat → Int) (v : Nat) : fl_div n fr to x v = fl_div n fr' to' x v :=
  fl_S_congr (fun a ha => by rw [(h a ha).1, (h a ha).2])
section FILL2
variable {n : Nat} {fr to : Nat → Nat} {cp cs sp : Nat → Int}
/-- the arcs that lead supplies in and demands out, after the first i nodes -/
def le_I (n : Nat) (fr to : Nat → Nat) (cp sp : Nat → Int) (i c : Nat) (ix fr2 to2 : Nat → Nat) (C2 : Nat → Int) (σ : fl_St) : Prop :=
  σ 13 1 = nI (n + c) ∧ c ≤ i ∧ (∀ k, k < n + c → σ 0 k = nI (fr2 k) ∧ σ 1 k = nI (to2 k) ∧ (σ 2 k).toInt = C2 k ∧ 0 ≤ C2 k ∧ C2 k ≤ 1000000) ∧ (∀ k, k < n → fr2 k = fr k ∧ to2 k = to k ∧ C2 k = cM cp k) ∧ fl_Ar 10 (n + c) fr2 to2 ∧
  (∀ v, v < i → (0 < sp v → n ≤ ix v ∧ ix v < n + c ∧ C2 (ix v) = sp v ∧ fr2 (ix v) = 8 ∧ to2 (ix v) = v) ∧ (sp v < 0 → n ≤ ix v ∧ ix v < n + c ∧ C2 (ix v) = -sp v ∧ fr2 (ix v) = v ∧ to2 (ix v) = 9)) ∧
  (∀ (f : Nat → Int) (v : Nat), v < 8 → fl_div (n + c) fr2 to2 f v = fl_div n fr to f v + (if v < i then (if 0 < sp v then -f (ix v) else if sp v < 0 then f (ix v) else 0) else 0)) ∧
  ∀ f : Nat → Int, fl_div (n + c) fr2 to2 f 8 = fl_S i (fun v => if 0 < sp v then f (ix v) else 0)
def le_F (n : Nat) (σ σ' : fl_St) : Prop := (∀ k, 4 ≤ k → k ≠ 13 → σ' k = σ k) ∧ (∀ k j, k < 4 → j < n → σ' k j = σ k j) ∧ σ' 13 0 = σ 13 0
theorem le_F.rf {σ : fl_St} : le_F n σ σ := ⟨fun _ _ _ => rfl, fun _ _ _ _ => rfl, rfl⟩
theorem le_F.tr {σ σ' σ'' : fl_St} (h : le_F n σ σ') (h' : le_F n σ' σ'') : le_F n σ σ'' := ⟨fun k a b => (h'.1 k a b).trans (h.1 k a b), fun k j a b => (h'.2.1 k j a b).trans (h.2.1 k j a b), h'.2.2.trans h.2.2⟩
theorem le_F.N {σ σ' : fl_St} (h : le_F n σ σ') (hN : md_N σ n fr to cp cs sp) : md_N σ' n fr to cp cs sp := by
  refine ⟨by rw [h.2.2]; exact hN.1, fun a ha => ?_, fun v hv => by rw [h.1 4 (by decide) (by decide)]; exact hN.2.2 v hv⟩
  rw [h.2.1 0 a (by decide) ha, h.2.1 1 a (by decide) ha, h.2.1 2 a (by decide) ha, h.2.1 3 a (by decide) ha]
  exact hN.2.1 a ha
theorem p_lead {σ : fl_St} {m : Nat} (hm : m < 36) (h13 : σ 13 1 = nI m) (x1 x2 x3 : Int32) :
    ∃ σ', f_X3_lead x1 x2 x3 σ = some σ' ∧ (∀ k, 4 ≤ k → k ≠ 13 → σ' k = σ k) ∧ (∀ k j, k < 4 → j ≠ m → σ' k j = σ k j) ∧ σ' 13 0 = σ 13 0 ∧ σ' 13 1 = nI (m + 1) ∧ σ' 0 m = x1 ∧ σ' 1 m = x2 ∧ σ' 2 m = x3 := by
  unfold f_X3_lead
  rw [h13, fl_wr_n hm (by omega), fl_bs, st_k (k := 0) (k' := 13) _ _ _ (by decide), h13, fl_wr_n hm (by omega), fl_bs, st_k (k := 1) (k' := 13) _ _ _ (by decide), st_k (k := 0) (k' := 13) _ _ _ (by decide), h13, fl_wr_n hm (by omega), fl_bs, st_k (k := 2) (k' := 13) _ _ _ (by decide), st_k (k := 1) (k' := 13) _ _ _ (by decide), st_k (k := 0) (k' := 13) _ _ _ (by decide), h13, fl_wr_n hm (by omega), fl_bs, fl_bs]
  refine ⟨_, rfl, fun k h1 h2 => ?_, fun k j h1 h2 => ?_, ?_, ?_, ?_, ?_, ?_⟩
  · rw [st_k _ _ _ h2, st_k _ _ _ (by omega), st_k _ _ _ (by omega), st_k _ _ _ (by omega), st_k _ _ _ (by omega)]
  · rw [st_k _ _ _ (by omega)]
    rcases (show k = 0 ∨ k = 1 ∨ k = 2 ∨ k = 3 by omega) with rfl | rfl | rfl | rfl
    · rw [st_k _ _ _ (by decide), st_k _ _ _ (by decide), st_k _ _ _ (by decide), st_j _ _ _ h2]
    · rw [st_k _ _ _ (by decide), st_k _ _ _ (by decide), st_j _ _ _ h2, st_k _ _ _ (by decide)]
    · rw [st_k _ _ _ (by decide), st_j _ _ _ h2, st_k _ _ _ (by decide), st_k _ _ _ (by decide)]
    · rw [st_j _ _ _ h2, st_k _ _ _ (by decide), st_k _ _ _ (by decide), st_k _ _ _ (by decide)]
  · rw [st_j _ _ _ (by decide), st_k _ _ _ (by decide), st_k _ _ _ (by decide), st_k _ _ _ (by decide), st_k _ _ _ (by decide)]
  · rw [st_s, st_k _ _ _ (by decide), st_k _ _ _ (by decide), st_k _ _ _ (by decide), st_k _ _ _ (by decide), h13, nI_1]
  · rw [st_k _ _ _ (by decide), st_k _ _ _ (by decide), st_k _ _ _ (by decide), st_k _ _ _ (by decide), st_s]
  · rw [st_k _ _ _ (by decide), st_k _ _ _ (by decide), st_k _ _ _ (by decide), st_s]
  · rw [st_k _ _ _ (by decide), st_k _ _ _ (by decide), st_s]
/-- one more arc, to or from one of the two ends -/
theorem le_add {i c : Nat} {ix fr2 to2 : Nat → Nat} {C2 : Nat → Int} {σ σ' : fl_St} (hn : n ≤ 20) (hi : i < 8) (h : le_I n fr to cp sp i c ix fr2 to2 C2 σ) {A B : Nat} {z : Int} (hz : 0 ≤ z ∧ z ≤ 1000000) (hAB : (0 < sp i ∧ A = 8 ∧ B = i ∧ z = sp i) ∨ (sp i < 0 ∧ A = i ∧ B = 9 ∧ z = -sp i))
    (e1 : ∀ k j, k < 4 → j ≠ n + c → σ' k j = σ k j) (e2 : σ' 13 1 = nI (n + c + 1)) (e3 : σ' 0 (n + c) = nI A) (e4 : σ' 1 (n + c) = nI B) (e5 : (σ' 2 (n + c)).toInt = z) :
    le_I n fr to cp sp (i + 1) (c + 1) (fun v => if v = i then n + c else ix v) (fun k => if k = n + c then A else fr2 k) (fun k => if k = n + c then B else to2 k) (fun k => if k = n + c then z else C2 k) σ' := by
  obtain ⟨i1, i2, i3, i4, i5, i6, i7, i8⟩ := h
  have hdv : ∀ (f : Nat → Int) (q : Nat), fl_div (n + (c + 1)) (fun k => if k = n + c then A else fr2 k) (fun k => if k = n + c then B else to2 k) f q = fl_div (n + c) fr2 to2 f q + ((if A = q then f (n + c) else 0) - (if B = q then f (n + c) else 0)) := by
    intro f q
    show fl_div (n + c + 1) _ _ f q = _
    rw [fl_div_s, fl_div_cg (fr' := fr2) (to' := to2) (fun a ha => ⟨if_neg (by omega), if_neg (by omega)⟩)]
    show _ + ((if (if n + c = n + c then A else fr2 (n + c)) = q then f (n + c) else 0) - (if (if n + c = n + c then B else to2 (n + c)) = q then f (n + c) else 0)) = _
    rw [if_pos rfl, if_pos rfl]
  refine ⟨e2, by omega, fun k hk => ?_, fun k hk => ?_, fun k hk => ?_, fun v hv => ?_, fun f v hv => ?_, fun f => ?_⟩
  · by_cases e : k = n + c
    · subst e
      show _ = nI (if n + c = n + c then A else fr2 (n + c)) ∧ _ = nI (if n + c = n + c then B else to2 (n + c)) ∧ _ = (if n + c = n + c then z else C2 (n + c)) ∧ 0 ≤ (if n + c = n + c then z else C2 (n + c)) ∧ (if n + c = n + c then z else C2 (n + c)) ≤ 1000000
      rw [if_pos rfl, if_pos rfl, if_pos rfl]
      exact ⟨e3, e4, e5, hz⟩
    · show _ = nI (if k = n + c then A else fr2 k) ∧ _ = nI (if k = n + c then B else to2 k) ∧ _ = (if k = n + c then z else C2 k) ∧ 0 ≤ (if k = n + c then z else C2 k) ∧ (if k = n + c then z else C2 k) ≤ 1000000
      rw [if_neg e, if_neg e, if_neg e, e1 0 k (by decide) e, e1 1 k (by decide) e, e1 2 k (by decide) e]
      exact i3 k (by omega)
  · show (if k = n + c then A else fr2 k) = _ ∧ (if k = n + c then B else to2 k) = _ ∧ (if k = n + c then z else C2 k) = _
    rw [if_neg (by omega), if_neg (by omega), if_neg (by omega)]
    exact i4 k hk
  · show (if k = n + c then A else fr2 k) < 10 ∧ (if k = n + c then B else to2 k) < 10 ∧ (if k = n + c then A else fr2 k) ≠ (if k = n + c then B else to2 k)
    by_cases e : k = n + c
    · rw [if_pos e, if_pos e]; omega
    · rw [if_neg e, if_neg e]; exact i5 k (by omega)
  · show (0 < sp v → n ≤ (if v = i then n + c else ix v) ∧ (if v = i then n + c else ix v) < n + (c + 1) ∧ (if (if v = i then n + c else ix v) = n + c then z else C2 (if v = i then n + c else ix v)) = sp v ∧ (if (if v = i then n + c else ix v) = n + c then A else fr2 (if v = i then n + c else ix v)) = 8 ∧ (if (if v = i then n + c else ix v) = n + c then B else to2 (if v = i then n + c else ix v)) = v) ∧
      (sp v < 0 → n ≤ (if v = i then n + c else ix v) ∧ (if v = i then n + c else ix v) < n + (c + 1) ∧ (if (if v = i then n + c else ix v) = n + c then z else C2 (if v = i then n + c else ix v)) = -sp v ∧ (if (if v = i then n + c else ix v) = n + c then A else fr2 (if v = i then n + c else ix v)) = v ∧ (if (if v = i then n + c else ix v) = n + c then B else to2 (if v = i then n + c else ix v)) = 9)
    by_cases e : v = i
    · rw [if_pos e, if_pos rfl, if_pos rfl, if_pos rfl, e]
      rcases hAB with ⟨h1, h2, h3, h4⟩ | ⟨h1, h2, h3, h4⟩
      · exact ⟨fun _ => ⟨by omega, by omega, h4, h2, h3⟩, fun q => by omega⟩
      · exact ⟨fun q => by omega, fun _ => ⟨by omega, by omega, h4, h2, h3⟩⟩
    · rw [if_neg e]
      obtain ⟨j1, j2⟩ := i6 v (by omega)
      refine ⟨fun q => ?_, fun q => ?_⟩
      · obtain ⟨k1, k2, k3, k4, k5⟩ := j1 q
        rw [if_neg (by omega), if_neg (by omega), if_neg (by omega)]
        exact ⟨k1, by omega, k3, k4, k5⟩
      · obtain ⟨k1, k2, k3, k4, k5⟩ := j2 q
        rw [if_neg (by omega), if_neg (by omega), if_neg (by omega)]
        exact ⟨k1, by omega, k3, k4, k5⟩
  · rw [hdv, i7 f v hv]
    show _ = _ + (if v < i + 1 then (if 0 < sp v then -f (if v = i then n + c else ix v) else if sp v < 0 then f (if v = i then n + c else ix v) else 0) else 0)
    by_cases e : v = i
    · rw [if_neg (c := v < i) (by omega), if_pos (c := v < i + 1) (by omega), if_pos e]
      rcases hAB with ⟨h1, h2, h3, h4⟩ | ⟨h1, h2, h3, h4⟩
      · rw [if_neg (c := A = v) (by omega), if_pos (c := B = v) (by omega), if_pos (c := 0 < sp v) (by rw [e]; exact h1)]; omega
      · rw [if_pos (c := A = v) (by omega), if_neg (c := B = v) (by omega), if_neg (c := 0 < sp v) (by rw [e]; omega), if_pos (c := sp v < 0) (by rw [e]; exact h1)]; omega
    · rw [if_neg (c := v = i) e, if_neg (c := A = v) (by omega), if_neg (c := B = v) (by omega)]
      by_cases c2 : v < i
      · rw [if_pos c2, if_pos (show v < i + 1 by omega)]; omega
      · rw [if_neg c2, if_neg (show ¬ v < i + 1 by omega)]; omega
  · rw [hdv, i8 f, fl_S_s]
    have e : fl_S i (fun v => if 0 < sp v then f (if v = i then n + c else ix v) else 0) = fl_S i (fun v => if 0 < sp v then f (ix v) else 0) := fl_S_congr (fun v hv => by rw [if_neg (show ¬ v = i by omega)])
    show _ = fl_S i (fun v => if 0 < sp v then f (if v = i then n + c else ix v) else 0) + (if 0 < sp i then f (if i = i then n + c else ix i) else 0)
    rw [e, if_pos (c := i = i) rfl]
    rcases hAB with ⟨h1, h2, h3, h4⟩ | ⟨h1, h2, h3, h4⟩
    · rw [if_pos (c := A = 8) h2, if_neg (c := B = 8) (by omega), if_pos h1]; omega
    · rw [if_neg (c := A = 8) (by omega), if_neg (c := B = 8) (by omega), if_neg (show ¬ 0 < sp i by omega)]; omega
theorem p_fill10 (hn : n ≤ 20) (hsp : ∀ v, v < 8 → -31 ≤ sp v ∧ sp v ≤ 31) :
    ∀ (F i c : Nat) (ix fr2 to2 : Nat → Nat) (C2 : Nat → Int) (σ : fl_St), i ≤ 8 → 8 - i < F → (∀ v, v < 8 → rv σ 4 v = sp v) → le_I n fr to cp sp i c ix fr2 to2 C2 σ →
      ∃ (c' : Nat) (ix' fr2' to2' : Nat → Nat) (C2' : Nat → Int) (σ' : fl_St), f_X3_fill_l10 F (nI i) σ = some σ' ∧ le_F n σ σ' ∧ le_I n fr to cp sp 8 c' ix' fr2' to2' C2' σ' := by
  intro F
  induction F with
  | zero => intro i c ix fr2 to2 C2 σ h1 h2; omega
  | succ F ih =>
    intro i c ix fr2 to2 C2 σ h1 h2 h4 hI
    by_cases cc : i = 8
    · subst cc
      exact ⟨c, ix, fr2, to2, C2, σ, by rw [f_X3_fill_l10]; rfl, le_F.rf, hI⟩
    · have hi : i < 8 := by omega
      have hs := hsp i hi
      have s4 : (σ 4 i).toInt = sp i := h4 i hi
      have z : (0 : Int32).toInt = 0 := by decide
      have hc := hI.2.1
      rw [f_X3_fill_l10, if_neg (nI_8 hi), fl_rd_n hi (by omega), fl_bs, nI_1]
      have hfr : ∀ σ' : fl_St, (∀ k, 4 ≤ k → k ≠ 13 → σ' k = σ k) → (∀ k j, k < 4 → j ≠ n + c → σ' k j = σ k j) → σ' 13 0 = σ 13 0 → le_F n σ σ' := fun σ' a b d => ⟨a, fun k j h1 h2 => b k j h1 (by omega), d⟩
      by_cases cp1 : 0 < sp i
      · obtain ⟨σ', l1, l2, l3, l4, l5, l6, l7, l8⟩ := p_lead (σ := σ) (m := n + c) (by omega) hI.1 8 (nI i) (σ 4 i)
        rw [if_neg (by rw [i_le, s4, z]; omega), fl_bs, l1, fl_bs, fl_bs]
        have hF := hfr σ' l2 l3 l4
        obtain ⟨c', ix', fr2', to2', C2', σ'', y1, y2, y3⟩ := ih (i + 1) (c + 1) _ _ _ _ σ' (by omega) (by omega) (fun v hv => by rw [rv_k (l2 4 (by decide) (by decide))]; exact h4 v hv) (le_add (A := 8) (B := i) (z := sp i) hn hi hI (by omega) (Or.inl ⟨cp1, rfl, rfl, rfl⟩) l3 l5 l6 l7 (by rw [l8]; exact s4))
        exact ⟨c', ix', fr2', to2', C2', σ'', y1, hF.tr y2, y3⟩
      · rw [if_pos (by rw [i_le, s4, z]; omega), fl_bs]
        by_cases cp2 : sp i < 0
        · have sneg : (-(σ 4 i)).toInt = -sp i := by rw [i_neg (by rw [s4]; omega), s4]
          obtain ⟨σ', l1, l2, l3, l4, l5, l6, l7, l8⟩ := p_lead (σ := σ) (m := n + c) (by omega) hI.1 (nI i) 9 (-(σ 4 i))
          rw [if_neg (by rw [i_le, s4, z]; omega), fl_bs, l1, fl_bs, fl_bs]
          have hF := hfr σ' l2 l3 l4
          obtain ⟨c', ix', fr2', to2', C2', σ'', y1, y2, y3⟩ := ih (i + 1) (c + 1) _ _ _ _ σ' (by omega) (by omega) (fun v hv => by rw [rv_k (l2 4 (by decide) (by decide))]; exact h4 v hv) (le_add (A := i) (B := 9) (z := -sp i) hn hi hI (by omega) (Or.inr ⟨cp2, rfl, rfl, rfl⟩) l3 l5 l6 l7 (by rw [l8]; exact sneg))
          exact ⟨c', ix', fr2', to2', C2', σ'', y1, hF.tr y2, y3⟩
        · rw [if_pos (by rw [i_le, s4, z]; omega), fl_bs]
          obtain ⟨i1, i2, i3, i4, i5, i6, i7, i8⟩ := hI
          have s0 : sp i = 0 := by omega
          obtain ⟨c', ix', fr2', to2', C2', σ'', y1, y2, y3⟩ := ih (i + 1) c ix fr2 to2 C2 σ (by omega) (by omega) h4 ⟨i1, by omega, i3, i4, i5, fun v hv => by
              by_cases e : v = i
              · rw [e]; exact ⟨fun q => by omega, fun q => by omega⟩
              · exact i6 v (by omega), fun f v hv => by
              rw [i7 f v hv]
              by_cases e : v = i
              · subst e
                rw [if_neg (by omega), if_pos (by omega), if_neg (by omega), if_neg (by omega)]
              · by_cases e2 : v < i
                · rw [if_pos e2, if_pos (show v < i + 1 by omega)]
                · rw [if_neg e2, if_neg (show ¬ v < i + 1 by omega)], fun f => by
              rw [i8 f, fl_S_s, s0]
              simp⟩
          exact ⟨c', ix', fr2', to2', C2', σ'', y1, y2, y3⟩
end FILL2
