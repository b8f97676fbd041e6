/-! pure rows: levelUnboundedArcs -/
theorem i_m1 {x : Int32} {c : Int} (h : x.toInt = c) : (x = -1) ↔ c = -1 := by
  rw [i_eq, h]
  exact Iff.rfl
theorem nI_8 {r : Nat} (h : r < 8) : ¬ (8 : Int32) ≤ nI r := nI_ge (a := r) (b := 8) h (by omega)
theorem p_level_z : ∀ (f i : Nat) (σ : fl_St), i ≤ 8 → 8 - i < f → (∀ v, v < i → rv σ 10 v = 0) → ∃ σ', f_X1_levelUnboundedArcs_l2 f (nI i) σ = some σ' ∧ (∀ k, k ≠ 10 → σ' k = σ k) ∧ ∀ v, v < 8 → rv σ' 10 v = 0 := by
  intro f
  induction f with
  | zero => intro i σ h1 h2; omega
  | succ f ih =>
    intro i σ h1 h2 hz
    by_cases c : i = 8
    · subst c
      exact ⟨σ, by rw [f_X1_levelUnboundedArcs_l2]; rfl, fun _ _ => rfl, hz⟩
    · rw [f_X1_levelUnboundedArcs_l2, if_neg (nI_8 (by omega)), fl_wr_n (by omega) (by omega), fl_bs, nI_1]
      obtain ⟨σ', e1, e2, e3⟩ := ih (i + 1) (st σ 10 i 0) (by omega) (by omega) (fun v hv => by
        show (st σ 10 i 0 10 v).toInt = 0
        rw [st_v]
        split
        · rfl
        · exact hz v (by omega))
      exact ⟨σ', e1, fun k hk => (e2 k hk).trans (st_k _ _ _ hk), e3⟩
section LEVEL
variable {n : Nat} {fr to : Nat → Nat} {cp cs sp g : Nat → Int}
theorem p_level_step (hV : fl_V n fr to cp cs sp) {σ : fl_St} (hN : cl_N σ n fr to cp cs sp) (hl : cl_L σ n fr to (lk_w g)) {i : Nat} (hi : i < n)
    (hw : -100000 ≤ g i ∧ g i ≤ 100000) (hd : ∀ v, v < 8 → -500000000 ≤ rv σ 10 v ∧ rv σ 10 v ≤ 500000000) (x2 x1 : Int32) (f : Nat) :
    f_X1_levelUnboundedArcs_l39 x2 (f + 1) x1 (nI i) σ =
      if cp i = -1 ∧ rv σ 10 (fr i) + g i < rv σ 10 (to i)
      then f_X1_levelUnboundedArcs_l39 x2 f 1 (nI (i + 1)) (st σ 10 (to i) (σ 10 (fr i) + σ 7 (2 * i)))
      else f_X1_levelUnboundedArcs_l39 x2 f x1 (nI (i + 1)) σ := by
  obtain ⟨hn, ha, -, -⟩ := hV
  obtain ⟨a1, a2, a3⟩ := ha i hi
  obtain ⟨q0, q1, q2, q3⟩ := hN.2.1 i hi
  obtain ⟨l5, l6, l7⟩ := hl.2 (2 * i) (by omega)
  rw [lk_t0] at l5
  rw [lk_h0] at l6
  rw [lk_w0] at l7
  have hdt := hd _ a1
  have hdh := hd _ a2
  rw [f_X1_levelUnboundedArcs_l39, hN.1, if_neg (nI_ge hi (by omega)), fl_rd_n (by omega) (by omega), fl_bs, nI_2, nI_1]
  by_cases c1 : cp i = -1
  · have hs := p_isShortcut hn ha hl (j := 2 * i) (by omega) (by rw [lk_t0, lk_w0]; show _ ≤ rv σ 10 (fr i) + g i; omega) (by rw [lk_t0, lk_w0]; show rv σ 10 (fr i) + g i ≤ _; omega)
    rw [lk_t0, lk_h0, lk_w0] at hs
    rw [if_pos ((i_m1 q2).mpr c1), hs, fl_bs]
    by_cases c2 : rv σ 10 (fr i) + g i < rv σ 10 (to i)
    · rw [if_pos c2, if_neg (by decide), fl_rd_n (by omega) (by omega), fl_bs, fl_rd_n (by omega) (by omega), fl_bs, l5, l6, fl_rd_n a1 (by omega), fl_bs, fl_rd_n (by omega) (by omega), fl_bs, fl_wr_n a2 (by omega), fl_bs, fl_b2s, if_pos ⟨c1, c2⟩]
    · rw [if_neg c2, if_pos rfl, fl_b2s, if_neg (fun q => c2 q.2)]
  · rw [if_neg (fun q => c1 ((i_m1 q2).mp q)), fl_b2s, if_neg (fun q => c1 q.1)]
abbrev lv_op (cp : Nat → Int) (a : Nat) : Prop := cp a = -1
theorem p_level_in (hV : fl_V n fr to cp cs sp) (hg : ∀ a, a < n → -50461 ≤ g a ∧ g a ≤ 50461) {r : Nat} {x2 : Int32} :
    ∀ (f i : Nat) (cg : Bool) (la T : Nat) (σ : fl_St) (en : Nat → Int), i ≤ n → n - i < f → T + n ≤ 400 + i → cl_N σ n fr to cp cs sp → cl_L σ n fr to (lk_w g) →
      bf_I 8 n (lv_op cp) fr to g 1000000000 50461 (fun _ => 0) r i cg la T (rv σ 10) en →
      ∃ (cg' : Bool) (la' : Nat) (σ' : fl_St) (en' : Nat → Int), f_X1_levelUnboundedArcs_l39 x2 f (b2i cg) (nI i) σ = some (b2i cg', σ') ∧ (∀ k, k ≠ 10 → σ' k = σ k) ∧
        bf_I 8 n (lv_op cp) fr to g 1000000000 50461 (fun _ => 0) r n cg' la' (T + (n - i)) (rv σ' 10) en' := by
  intro f
  induction f with
  | zero => intro i cg la T σ en h1 h2; omega
  | succ f ih =>
    intro i cg la T σ en h1 h2 hT hN hl hI
    by_cases c : i = n
    · subst c
      refine ⟨cg, la, σ, en, ?_, fun _ _ => rfl, by rw [show i - i = 0 by omega]; exact hI⟩
      rw [f_X1_levelUnboundedArcs_l39, hN.1, if_pos (nI_le (Nat.le_refl _) (by have := hV.1; omega))]
    · have hlt : i < n := by omega
      obtain ⟨a1, a2, a3⟩ := hV.2.1 i hlt
      have hb : ∀ v, v < 8 → -500000000 ≤ rv σ 10 v ∧ rv σ 10 v ≤ 500000000 := by
        intro v hv
        obtain ⟨tm, rd, ch, ⟨g1, g2, g3, g4, g5⟩, -, -, gb⟩ := hI
        have e1 : rv σ 10 v ≤ 0 := g2 v hv
        have := gb v hv (by omega)
        have e3 : (50461 : Int) * T ≤ 50461 * 400 := Int.mul_le_mul_of_nonneg_left (by omega) (by decide)
        omega
      have hgi := hg i hlt
      rw [p_level_step hV hN hl hlt (by omega) hb]
      rw [show T + (n - i) = (T + 1) + (n - (i + 1)) by omega]
      have b1 := hb _ a1
      have b2 := hb _ a2
      by_cases c5 : cp i = -1 ∧ rv σ 10 (fr i) + g i < rv σ 10 (to i)
      · rw [if_pos c5]
        have l7 := (hl.2 (2 * i) (by omega)).2.2
        rw [lk_w0] at l7
        have e10 : rv (st σ 10 (to i) (σ 10 (fr i) + σ 7 (2 * i))) 10 = fl_up (rv σ 10) (to i) (rv σ 10 (fr i) + g i) := by
          rw [rv_st]
          have e : (σ 10 (fr i) + σ 7 (2 * i)).toInt = rv σ 10 (fr i) + g i := by
            rw [i_add (by rw [l7]; show _ ≤ rv σ 10 (fr i) + g i; omega) (by rw [l7]; show rv σ 10 (fr i) + g i ≤ _; omega), l7]
          rw [e]
        have hB : (50461 : Int) * ((T + 1 : Nat) : Int) ≤ 50461 * 500 := Int.mul_le_mul_of_nonneg_left (by omega) (by decide)
        have hI' := bf_step (by decide) hlt a1 a2 a3 hgi (by omega) hI c5.1 (by omega) c5.2
        have hk : ∀ k, k ≠ 10 → st σ 10 (to i) (σ 10 (fr i) + σ 7 (2 * i)) k = σ k := fun k hk => st_k _ _ _ hk
        obtain ⟨cg', la', σ', en', e1, e2, e3⟩ := ih (i + 1) true (to i) (T + 1) _ _ (by omega) (by omega) (by omega) (hN.mv (fun k q => hk k (by omega))) (hl.mv (hk 5 (by decide)) (hk 6 (by decide)) (hk 7 (by decide)) (hk 12 (by decide))) (by rw [e10]; exact hI')
        exact ⟨cg', la', σ', en', e1, fun k q => (e2 k q).trans (hk k q), e3⟩
      · rw [if_neg c5]
        have hI' := bf_skip (by decide) hI (fun q => c5 ⟨q.1, q.2.2⟩)
        exact ih (i + 1) cg la (T + 1) σ en (by omega) (by omega) (by omega) hN hl hI'
/-- the node numbers d let no unbounded arc be a shortcut -/
def fl_PotU (n : Nat) (fr to : Nat → Nat) (cp g d : Nat → Int) : Prop := ∀ a, a < n → cp a = -1 → d (to a) ≤ d (fr a) + g a
theorem p_level_out (hV : fl_V n fr to cp cs sp) (hg : ∀ a, a < n → -50461 ≤ g a ∧ g a ≤ 50461) :
    ∀ (f r : Nat) (la T : Nat) (σ : fl_St) (en : Nat → Int), r ≤ 7 → 9 - r < f → T ≤ 1 + r * n → cl_N σ n fr to cp cs sp → cl_L σ n fr to (lk_w g) →
      bf_I 8 n (lv_op cp) fr to g 1000000000 50461 (fun _ => 0) r 0 false la T (rv σ 10) en →
      ∃ (b : Bool) (σ' : fl_St), f_X1_levelUnboundedArcs_l25 f 1 (nI r) σ = some (b2i b, σ') ∧ (∀ k, k ≠ 10 → σ' k = σ k) ∧
        (b = false → fl_PotU n fr to cp g (rv σ' 10)) ∧ (b = true → ¬ ∃ d, fl_PotU n fr to cp g d) ∧ ∀ v, v < 8 → -30000000 ≤ rv σ' 10 v ∧ rv σ' 10 v ≤ 0 := by
  intro f
  induction f with
  | zero => intro r la T σ en h1 h2; omega
  | succ f ih =>
    intro r la T σ en hr hf hT hN hl hI
    have hn := hV.1
    have hT2 : r * n ≤ r * 20 := Nat.mul_le_mul_left _ hn
    obtain ⟨cg', la', σ', en', e1, e2, e3⟩ := p_level_in (x2 := nI r) hV hg fl_N 0 false la T σ en (by omega) (by unfold fl_N; omega) (by omega) hN hl hI
    rw [f_X1_levelUnboundedArcs_l25, if_neg (by decide), if_neg (nI_8 (by omega))]
    have e1 : f_X1_levelUnboundedArcs_l39 (nI r) fl_N 0 0 σ = some (b2i cg', σ') := e1
    rw [e1, fl_b2s, nI_1]
    have hN' := hN.mv (fun k q => e2 k (by omega))
    have hl' := hl.mv (e2 5 (by decide)) (e2 6 (by decide)) (e2 7 (by decide)) (e2 12 (by decide))
    have hbd : ∀ v, v < 8 → -30000000 ≤ rv σ' 10 v ∧ rv σ' 10 v ≤ 0 := by
      intro v hv
      obtain ⟨tm, rd, ch, ⟨g1, g2, g3, g4, g5⟩, -, -, gb⟩ := e3
      have e1 : rv σ' 10 v ≤ 0 := g2 v hv
      have := gb v hv (by omega)
      have e3 : (50461 : Int) * ((T + (n - 0) : Nat) : Int) ≤ 50461 * 400 := Int.mul_le_mul_of_nonneg_left (by omega) (by decide)
      omega
    cases cg' with
    | false =>
      refine ⟨false, σ', ?_, e2, fun _ => ?_, (fun h => by cases h), hbd⟩
      · cases f with
        | zero => omega
        | succ f => rw [f_X1_levelUnboundedArcs_l25]; rfl
      · intro a ha hca
        obtain ⟨z1, z2, z3, -⟩ := bf_end e3
        have h0 : rv σ' 10 (fr a) ≤ 0 := z1 _ (hV.2.1 a ha).1
        exact z3 a ha hca (by omega)
    | true =>
      by_cases c : r = 7
      · refine ⟨true, σ', ?_, e2, (fun h => by cases h), fun _ hp => ?_, hbd⟩
        · cases f with
          | zero => omega
          | succ f => rw [f_X1_levelUnboundedArcs_l25, c]; rfl
        · obtain ⟨d, hd⟩ := hp
          have := bf_few e3 ⟨d, fun j hj ho => hd j hj ho⟩
          omega
      · obtain ⟨b, σ'', a1, a2, a3, a4, a5⟩ := ih (r + 1) 0 (T + (n - 0)) σ' en' (by omega) (by omega) (by rw [Nat.succ_mul r n]; omega) hN' hl' (bf_round e3 0)
        exact ⟨b, σ'', a1, fun k q => (a2 k q).trans (e2 k q), a3, a4, a5⟩
theorem p_level (hV : fl_V n fr to cp cs sp) (hg : ∀ a, a < n → -50461 ≤ g a ∧ g a ≤ 50461) {σ : fl_St} (hN : cl_N σ n fr to cp cs sp) (hl : cl_L σ n fr to (lk_w g)) :
    ∃ (b : Bool) (σ' : fl_St), f_X1_levelUnboundedArcs σ = some (b2i b, σ') ∧ (∀ k, k ≠ 10 → σ' k = σ k) ∧
      (b = true → fl_PotU n fr to cp g (rv σ' 10)) ∧ (b = false → ¬ ∃ d, fl_PotU n fr to cp g d) ∧ ∀ v, v < 8 → -30000000 ≤ rv σ' 10 v ∧ rv σ' 10 v ≤ 0 := by
  obtain ⟨σ1, e1, e2, e3⟩ := p_level_z fl_N 0 σ (by omega) (by unfold fl_N; omega) (fun v hv => by omega)
  have h0 := bf_start (N := 8) (m := n) (op := lv_op cp) (tl := fr) (hd := to) (w := g) (F := 1000000000) (B := 50461) (ini := fun _ => 0) (la := 0) (d := rv σ1 10) (en := fun _ => -1) (by decide) (fun _ _ => Or.inr rfl) (fun _ _ => rfl) e3
  obtain ⟨b, σ', a1, a2, a3, a4, a5⟩ := p_level_out hV hg fl_N 0 0 1 σ1 _ (by omega) (by unfold fl_N; omega) (by omega) (hN.mv (fun k q => e2 k (by omega))) (hl.mv (e2 5 (by decide)) (e2 6 (by decide)) (e2 7 (by decide)) (e2 12 (by decide))) h0
  refine ⟨!b, σ', ?_, fun k q => (a2 k q).trans (e2 k q), fun h => a3 (by simpa using h), fun h => a4 (by simpa using h), a5⟩
  unfold f_X1_levelUnboundedArcs
  rw [show f_X1_levelUnboundedArcs_l2 fl_N 0 σ = some σ1 from e1, fl_bs, show f_X1_levelUnboundedArcs_l25 fl_N 1 0 σ1 = some (b2i b, σ') from a1, fl_b2s]
  cases b <;> rfl
end LEVEL
